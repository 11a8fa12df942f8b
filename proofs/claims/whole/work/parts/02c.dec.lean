theorem dX6_tokens_36 : decode cX6_tokens 36 = .ok (.iconst 1, 1) := by decide +kernel
theorem dX6_tokens_37 : decode cX6_tokens 37 = .ok (.if_icmp .lt 22, 3) := by decide +kernel
theorem dX6_tokens_40 : decode cX6_tokens 40 = .ok (.iload_n 2, 1) := by decide +kernel
theorem dX6_tokens_41 : decode cX6_tokens 41 = .ok (.sipush 300, 3) := by decide +kernel
theorem dX6_tokens_44 : decode cX6_tokens 44 = .ok (.if_icmp .gt 15, 3) := by decide +kernel
theorem dX6_tokens_47 : decode cX6_tokens 47 = .ok (.iload_n 3, 1) := by decide +kernel
theorem dX6_tokens_48 : decode cX6_tokens 48 = .ok (.iload_n 2, 1) := by decide +kernel
theorem dX6_tokens_49 : decode cX6_tokens 49 = .ok (.if_icmp .lt 10, 3) := by decide +kernel
theorem dX6_tokens_52 : decode cX6_tokens 52 = .ok (.iload_n 3, 1) := by decide +kernel
theorem dX6_tokens_53 : decode cX6_tokens 53 = .ok (.sipush 300, 3) := by decide +kernel
theorem dX6_tokens_56 : decode cX6_tokens 56 = .ok (.if_icmp .le 5, 3) := by decide +kernel
theorem dX6_tokens_59 : decode cX6_tokens 59 = .ok (.iconst (-1), 1) := by decide +kernel
theorem dX6_tokens_60 : decode cX6_tokens 60 = .ok (.ireturn, 1) := by decide +kernel
theorem dX6_tokens_61 : decode cX6_tokens 61 = .ok (.aload_n 0, 1) := by decide +kernel
theorem dX6_tokens_62 : decode cX6_tokens 62 = .ok (.getfield 22, 3) := by decide +kernel
theorem dX6_tokens_65 : decode cX6_tokens 65 = .ok (.iload 4, 2) := by decide +kernel
theorem dX6_tokens_67 : decode cX6_tokens 67 = .ok (.ifCond .ne 8, 3) := by decide +kernel
theorem dX6_tokens_70 : decode cX6_tokens 70 = .ok (.iload_n 1, 1) := by decide +kernel
theorem dX6_tokens_71 : decode cX6_tokens 71 = .ok (.iconst 4, 1) := by decide +kernel
theorem dX6_tokens_72 : decode cX6_tokens 72 = .ok (.if_icmp .ne 7, 3) := by decide +kernel
theorem dX6_tokens_75 : decode cX6_tokens 75 = .ok (.iconst 1, 1) := by decide +kernel
theorem dX6_tokens_76 : decode cX6_tokens 76 = .ok (.goto 4, 3) := by decide +kernel
theorem dX6_tokens_79 : decode cX6_tokens 79 = .ok (.iconst 0, 1) := by decide +kernel
theorem dX6_tokens_80 : decode cX6_tokens 80 = .ok (.invokevirtual 94, 3) := by decide +kernel
theorem dX6_tokens_83 : decode cX6_tokens 83 = .ok (.iload_n 1, 1) := by decide +kernel
theorem dX6_tokens_84 : decode cX6_tokens 84 = .ok (.iconst 3, 1) := by decide +kernel
theorem dX6_tokens_85 : decode cX6_tokens 85 = .ok (.if_icmp .ne 10, 3) := by decide +kernel
theorem dX6_tokens_88 : decode cX6_tokens 88 = .ok (.aload_n 0, 1) := by decide +kernel
theorem dX6_tokens_89 : decode cX6_tokens 89 = .ok (.invokevirtual 98, 3) := by decide +kernel
theorem dX6_tokens_92 : decode cX6_tokens 92 = .ok (.goto 10, 3) := by decide +kernel
theorem dX6_tokens_95 : decode cX6_tokens 95 = .ok (.aload_n 0, 1) := by decide +kernel
theorem dX6_tokens_96 : decode cX6_tokens 96 = .ok (.iload_n 1, 1) := by decide +kernel
theorem dX6_tokens_97 : decode cX6_tokens 97 = .ok (.iload_n 2, 1) := by decide +kernel
theorem dX6_tokens_98 : decode cX6_tokens 98 = .ok (.iload_n 3, 1) := by decide +kernel
theorem dX6_tokens_99 : decode cX6_tokens 99 = .ok (.invokevirtual 101, 3) := by decide +kernel
theorem dX6_tokens_102 : decode cX6_tokens 102 = .ok (.aload_n 0, 1) := by decide +kernel
theorem dX6_tokens_103 : decode cX6_tokens 103 = .ok (.getfield 22, 3) := by decide +kernel
theorem dX6_tokens_106 : decode cX6_tokens 106 = .ok (.invokevirtual 105, 3) := by decide +kernel
theorem dX6_tokens_109 : decode cX6_tokens 109 = .ok (.ifCond .eq 13, 3) := by decide +kernel
theorem dX6_tokens_112 : decode cX6_tokens 112 = .ok (.aload_n 0, 1) := by decide +kernel
theorem dX6_tokens_113 : decode cX6_tokens 113 = .ok (.getfield 22, 3) := by decide +kernel
theorem dX6_tokens_116 : decode cX6_tokens 116 = .ok (.invokevirtual 63, 3) := by decide +kernel
theorem dX6_tokens_119 : decode cX6_tokens 119 = .ok (.bipush (-3), 2) := by decide +kernel
theorem dX6_tokens_121 : decode cX6_tokens 121 = .ok (.ireturn, 1) := by decide +kernel
theorem dX6_tokens_122 : decode cX6_tokens 122 = .ok (.aload_n 0, 1) := by decide +kernel
theorem dX6_tokens_123 : decode cX6_tokens 123 = .ok (.getfield 22, 3) := by decide +kernel
theorem dX6_tokens_126 : decode cX6_tokens 126 = .ok (.invokevirtual 109, 3) := by decide +kernel
theorem dX6_tokens_129 : decode cX6_tokens 129 = .ok (.ireturn, 1) := by decide +kernel
theorem dX6_token_0 : decode cX6_token 0 = .ok (.aload_n 0, 1) := by decide +kernel
theorem dX6_token_1 : decode cX6_token 1 = .ok (.getfield 22, 3) := by decide +kernel
theorem dX6_token_4 : decode cX6_token 4 = .ok (.iload_n 1, 1) := by decide +kernel
theorem dX6_token_5 : decode cX6_token 5 = .ok (.invokevirtual 110, 3) := by decide +kernel
theorem dX6_token_8 : decode cX6_token 8 = .ok (.ifCond .ne 5, 3) := by decide +kernel
theorem dX6_token_11 : decode cX6_token 11 = .ok (.iconst (-1), 1) := by decide +kernel
theorem dX6_token_12 : decode cX6_token 12 = .ok (.ireturn, 1) := by decide +kernel
theorem dX6_token_13 : decode cX6_token 13 = .ok (.iload_n 2, 1) := by decide +kernel
theorem dX6_token_14 : decode cX6_token 14 = .ok (.tableswitch 53 0 2 #[26, 35, 44], 26) := by decide +kernel
theorem dX6_token_40 : decode cX6_token 40 = .ok (.aload_n 0, 1) := by decide +kernel
theorem dX6_token_41 : decode cX6_token 41 = .ok (.getfield 22, 3) := by decide +kernel
theorem dX6_token_44 : decode cX6_token 44 = .ok (.iload_n 1, 1) := by decide +kernel
theorem dX6_token_45 : decode cX6_token 45 = .ok (.invokevirtual 113, 3) := by decide +kernel
theorem dX6_token_48 : decode cX6_token 48 = .ok (.ireturn, 1) := by decide +kernel
theorem dX6_token_49 : decode cX6_token 49 = .ok (.aload_n 0, 1) := by decide +kernel
theorem dX6_token_50 : decode cX6_token 50 = .ok (.getfield 22, 3) := by decide +kernel
theorem dX6_token_53 : decode cX6_token 53 = .ok (.iload_n 1, 1) := by decide +kernel
theorem dX6_token_54 : decode cX6_token 54 = .ok (.invokevirtual 116, 3) := by decide +kernel
theorem dX6_token_57 : decode cX6_token 57 = .ok (.ireturn, 1) := by decide +kernel
theorem dX6_token_58 : decode cX6_token 58 = .ok (.aload_n 0, 1) := by decide +kernel
theorem dX6_token_59 : decode cX6_token 59 = .ok (.getfield 22, 3) := by decide +kernel
theorem dX6_token_62 : decode cX6_token 62 = .ok (.iload_n 1, 1) := by decide +kernel
theorem dX6_token_63 : decode cX6_token 63 = .ok (.invokevirtual 119, 3) := by decide +kernel
theorem dX6_token_66 : decode cX6_token 66 = .ok (.ireturn, 1) := by decide +kernel
theorem dX6_token_67 : decode cX6_token 67 = .ok (.iconst (-1), 1) := by decide +kernel
theorem dX6_token_68 : decode cX6_token 68 = .ok (.ireturn, 1) := by decide +kernel
theorem dX6_sign_0 : decode cX6_sign 0 = .ok (.aload_n 0, 1) := by decide +kernel
theorem dX6_sign_1 : decode cX6_sign 1 = .ok (.getfield 22, 3) := by decide +kernel
theorem dX6_sign_4 : decode cX6_sign 4 = .ok (.iload_n 1, 1) := by decide +kernel
theorem dX6_sign_5 : decode cX6_sign 5 = .ok (.invokevirtual 110, 3) := by decide +kernel
theorem dX6_sign_8 : decode cX6_sign 8 = .ok (.ifCond .eq 19, 3) := by decide +kernel
theorem dX6_sign_11 : decode cX6_sign 11 = .ok (.iload_n 2, 1) := by decide +kernel
theorem dX6_sign_12 : decode cX6_sign 12 = .ok (.ifCond .lt 15, 3) := by decide +kernel
theorem dX6_sign_15 : decode cX6_sign 15 = .ok (.iload_n 2, 1) := by decide +kernel
theorem dX6_sign_16 : decode cX6_sign 16 = .ok (.aload_n 0, 1) := by decide +kernel
theorem dX6_sign_17 : decode cX6_sign 17 = .ok (.getfield 22, 3) := by decide +kernel
theorem dX6_sign_20 : decode cX6_sign 20 = .ok (.iload_n 1, 1) := by decide +kernel
theorem dX6_sign_21 : decode cX6_sign 21 = .ok (.invokevirtual 122, 3) := by decide +kernel
theorem dX6_sign_24 : decode cX6_sign 24 = .ok (.if_icmp .lt 5, 3) := by decide +kernel
theorem dX6_sign_27 : decode cX6_sign 27 = .ok (.iconst (-1), 1) := by decide +kernel
theorem dX6_sign_28 : decode cX6_sign 28 = .ok (.ireturn, 1) := by decide +kernel
theorem dX6_sign_29 : decode cX6_sign 29 = .ok (.aload_n 0, 1) := by decide +kernel
theorem dX6_sign_30 : decode cX6_sign 30 = .ok (.getfield 16, 3) := by decide +kernel
theorem dX6_sign_33 : decode cX6_sign 33 = .ok (.aload_n 0, 1) := by decide +kernel
theorem dX6_sign_34 : decode cX6_sign 34 = .ok (.getfield 22, 3) := by decide +kernel
theorem dX6_sign_37 : decode cX6_sign 37 = .ok (.iload_n 1, 1) := by decide +kernel
theorem dX6_sign_38 : decode cX6_sign 38 = .ok (.invokevirtual 113, 3) := by decide +kernel
theorem dX6_sign_41 : decode cX6_sign 41 = .ok (.iload_n 2, 1) := by decide +kernel
theorem dX6_sign_42 : decode cX6_sign 42 = .ok (.iadd, 1) := by decide +kernel
theorem dX6_sign_43 : decode cX6_sign 43 = .ok (.invokevirtual 125, 3) := by decide +kernel
theorem dX6_sign_46 : decode cX6_sign 46 = .ok (.ireturn, 1) := by decide +kernel
theorem dX6_same_0 : decode cX6_same 0 = .ok (.aload_n 0, 1) := by decide +kernel
theorem dX6_same_1 : decode cX6_same 1 = .ok (.getfield 22, 3) := by decide +kernel
theorem dX6_same_4 : decode cX6_same 4 = .ok (.iload_n 1, 1) := by decide +kernel
theorem dX6_same_5 : decode cX6_same 5 = .ok (.invokevirtual 110, 3) := by decide +kernel
theorem dX6_same_8 : decode cX6_same 8 = .ok (.ifCond .eq 14, 3) := by decide +kernel
theorem dX6_same_11 : decode cX6_same 11 = .ok (.aload_n 0, 1) := by decide +kernel
theorem dX6_same_12 : decode cX6_same 12 = .ok (.getfield 22, 3) := by decide +kernel
theorem dX6_same_15 : decode cX6_same 15 = .ok (.iload_n 2, 1) := by decide +kernel
theorem dX6_same_16 : decode cX6_same 16 = .ok (.invokevirtual 110, 3) := by decide +kernel
theorem dX6_same_19 : decode cX6_same 19 = .ok (.ifCond .ne 5, 3) := by decide +kernel
theorem dX6_same_22 : decode cX6_same 22 = .ok (.iconst (-1), 1) := by decide +kernel
theorem dX6_same_23 : decode cX6_same 23 = .ok (.ireturn, 1) := by decide +kernel
theorem dX6_same_24 : decode cX6_same 24 = .ok (.aload_n 0, 1) := by decide +kernel
theorem dX6_same_25 : decode cX6_same 25 = .ok (.getfield 22, 3) := by decide +kernel
theorem dX6_same_28 : decode cX6_same 28 = .ok (.iload_n 1, 1) := by decide +kernel
theorem dX6_same_29 : decode cX6_same 29 = .ok (.invokevirtual 122, 3) := by decide +kernel
theorem dX6_same_32 : decode cX6_same 32 = .ok (.istore_n 3, 1) := by decide +kernel
theorem dX6_same_33 : decode cX6_same 33 = .ok (.iload_n 3, 1) := by decide +kernel
theorem dX6_same_34 : decode cX6_same 34 = .ok (.aload_n 0, 1) := by decide +kernel
theorem dX6_same_35 : decode cX6_same 35 = .ok (.getfield 22, 3) := by decide +kernel
theorem dX6_same_38 : decode cX6_same 38 = .ok (.iload_n 2, 1) := by decide +kernel
theorem dX6_same_39 : decode cX6_same 39 = .ok (.invokevirtual 122, 3) := by decide +kernel
theorem dX6_same_42 : decode cX6_same 42 = .ok (.if_icmp .eq 5, 3) := by decide +kernel
theorem dX6_same_45 : decode cX6_same 45 = .ok (.iconst 0, 1) := by decide +kernel
theorem dX6_same_46 : decode cX6_same 46 = .ok (.ireturn, 1) := by decide +kernel
theorem dX6_same_47 : decode cX6_same 47 = .ok (.iconst 0, 1) := by decide +kernel
theorem dX6_same_48 : decode cX6_same 48 = .ok (.istore 4, 2) := by decide +kernel
theorem dX6_same_50 : decode cX6_same 50 = .ok (.iload 4, 2) := by decide +kernel
theorem dX6_same_52 : decode cX6_same 52 = .ok (.iload_n 3, 1) := by decide +kernel
theorem dX6_same_53 : decode cX6_same 53 = .ok (.if_icmp .ge 50, 3) := by decide +kernel
theorem dX6_same_56 : decode cX6_same 56 = .ok (.aload_n 0, 1) := by decide +kernel
theorem dX6_same_57 : decode cX6_same 57 = .ok (.getfield 16, 3) := by decide +kernel
theorem dX6_same_60 : decode cX6_same 60 = .ok (.aload_n 0, 1) := by decide +kernel
theorem dX6_same_61 : decode cX6_same 61 = .ok (.getfield 22, 3) := by decide +kernel
theorem dX6_same_64 : decode cX6_same 64 = .ok (.iload_n 1, 1) := by decide +kernel
theorem dX6_same_65 : decode cX6_same 65 = .ok (.invokevirtual 113, 3) := by decide +kernel
theorem dX6_same_68 : decode cX6_same 68 = .ok (.iload 4, 2) := by decide +kernel
theorem dX6_same_70 : decode cX6_same 70 = .ok (.iadd, 1) := by decide +kernel
theorem dX6_same_71 : decode cX6_same 71 = .ok (.invokevirtual 125, 3) := by decide +kernel
theorem dX6_same_74 : decode cX6_same 74 = .ok (.aload_n 0, 1) := by decide +kernel
theorem dX6_same_75 : decode cX6_same 75 = .ok (.getfield 16, 3) := by decide +kernel
theorem dX6_same_78 : decode cX6_same 78 = .ok (.aload_n 0, 1) := by decide +kernel
theorem dX6_same_79 : decode cX6_same 79 = .ok (.getfield 22, 3) := by decide +kernel
theorem dX6_same_82 : decode cX6_same 82 = .ok (.iload_n 2, 1) := by decide +kernel
theorem dX6_same_83 : decode cX6_same 83 = .ok (.invokevirtual 113, 3) := by decide +kernel
theorem dX6_same_86 : decode cX6_same 86 = .ok (.iload 4, 2) := by decide +kernel
theorem dX6_same_88 : decode cX6_same 88 = .ok (.iadd, 1) := by decide +kernel
theorem dX6_same_89 : decode cX6_same 89 = .ok (.invokevirtual 125, 3) := by decide +kernel
theorem dX6_same_92 : decode cX6_same 92 = .ok (.if_icmp .eq 5, 3) := by decide +kernel
theorem dX6_same_95 : decode cX6_same 95 = .ok (.iconst 0, 1) := by decide +kernel
theorem dX6_same_96 : decode cX6_same 96 = .ok (.ireturn, 1) := by decide +kernel
theorem dX6_same_97 : decode cX6_same 97 = .ok (.iinc 4 1, 3) := by decide +kernel
theorem dX6_same_100 : decode cX6_same 100 = .ok (.goto (-50), 3) := by decide +kernel
theorem dX6_same_103 : decode cX6_same 103 = .ok (.iconst 1, 1) := by decide +kernel
theorem dX6_same_104 : decode cX6_same 104 = .ok (.ireturn, 1) := by decide +kernel
theorem dX6_cost_0 : decode cX6_cost 0 = .ok (.aload_n 0, 1) := by decide +kernel
theorem dX6_cost_1 : decode cX6_cost 1 = .ok (.getfield 16, 3) := by decide +kernel
theorem dX6_cost_4 : decode cX6_cost 4 = .ok (.iload_n 1, 1) := by decide +kernel
theorem dX6_cost_5 : decode cX6_cost 5 = .ok (.invokevirtual 125, 3) := by decide +kernel
theorem dX6_cost_8 : decode cX6_cost 8 = .ok (.istore_n 2, 1) := by decide +kernel
theorem dX6_cost_9 : decode cX6_cost 9 = .ok (.iload_n 2, 1) := by decide +kernel
theorem dX6_cost_10 : decode cX6_cost 10 = .ok (.iconst (-1), 1) := by decide +kernel
theorem dX6_cost_11 : decode cX6_cost 11 = .ok (.if_icmp .ne 5, 3) := by decide +kernel
theorem dX6_cost_14 : decode cX6_cost 14 = .ok (.iconst (-1), 1) := by decide +kernel
theorem dX6_cost_15 : decode cX6_cost 15 = .ok (.ireturn, 1) := by decide +kernel
theorem dX6_cost_16 : decode cX6_cost 16 = .ok (.iload_n 2, 1) := by decide +kernel
theorem dX6_cost_17 : decode cX6_cost 17 = .ok (.invokestatic 128, 3) := by decide +kernel
theorem dX6_cost_20 : decode cX6_cost 20 = .ok (.ifCond .eq 6, 3) := by decide +kernel
theorem dX6_cost_23 : decode cX6_cost 23 = .ok (.bipush (-2), 2) := by decide +kernel
theorem dX6_cost_25 : decode cX6_cost 25 = .ok (.ireturn, 1) := by decide +kernel
theorem dX6_cost_26 : decode cX6_cost 26 = .ok (.iload_n 1, 1) := by decide +kernel
theorem dX6_cost_27 : decode cX6_cost 27 = .ok (.istore_n 3, 1) := by decide +kernel
theorem dX6_cost_28 : decode cX6_cost 28 = .ok (.iload_n 3, 1) := by decide +kernel
theorem dX6_cost_29 : decode cX6_cost 29 = .ok (.ifCond .le 25, 3) := by decide +kernel
theorem dX6_cost_32 : decode cX6_cost 32 = .ok (.aload_n 0, 1) := by decide +kernel
theorem dX6_cost_33 : decode cX6_cost 33 = .ok (.getfield 16, 3) := by decide +kernel
theorem dX6_cost_36 : decode cX6_cost 36 = .ok (.iload_n 3, 1) := by decide +kernel
theorem dX6_cost_37 : decode cX6_cost 37 = .ok (.iconst 1, 1) := by decide +kernel
theorem dX6_cost_38 : decode cX6_cost 38 = .ok (.isub, 1) := by decide +kernel
theorem dX6_cost_39 : decode cX6_cost 39 = .ok (.invokevirtual 125, 3) := by decide +kernel
theorem dX6_cost_42 : decode cX6_cost 42 = .ok (.invokestatic 131, 3) := by decide +kernel
theorem dX6_cost_45 : decode cX6_cost 45 = .ok (.ifCond .eq 9, 3) := by decide +kernel
theorem dX6_cost_48 : decode cX6_cost 48 = .ok (.iinc 3 (-1), 3) := by decide +kernel
theorem dX6_cost_51 : decode cX6_cost 51 = .ok (.goto (-23), 3) := by decide +kernel
theorem dX6_cost_54 : decode cX6_cost 54 = .ok (.aload_n 0, 1) := by decide +kernel
theorem dX6_cost_55 : decode cX6_cost 55 = .ok (.getfield 29, 3) := by decide +kernel
theorem dX6_cost_58 : decode cX6_cost 58 = .ok (.aload_n 0, 1) := by decide +kernel
theorem dX6_cost_59 : decode cX6_cost 59 = .ok (.getfield 16, 3) := by decide +kernel
theorem dX6_cost_62 : decode cX6_cost 62 = .ok (.iload_n 3, 1) := by decide +kernel
theorem dX6_cost_63 : decode cX6_cost 63 = .ok (.aload_n 0, 1) := by decide +kernel
theorem dX6_cost_64 : decode cX6_cost 64 = .ok (.iconst 1, 1) := by decide +kernel
theorem dX6_cost_65 : decode cX6_cost 65 = .ok (.iload_n 1, 1) := by decide +kernel
theorem dX6_cost_66 : decode cX6_cost 66 = .ok (.invokevirtual 134, 3) := by decide +kernel
theorem dX6_cost_69 : decode cX6_cost 69 = .ok (.invokevirtual 137, 3) := by decide +kernel
theorem dX6_cost_72 : decode cX6_cost 72 = .ok (.ireturn, 1) := by decide +kernel
theorem dX6_match_0 : decode cX6_match 0 = .ok (.aload_n 0, 1) := by decide +kernel
theorem dX6_match_1 : decode cX6_match 1 = .ok (.getfield 16, 3) := by decide +kernel
theorem dX6_match_4 : decode cX6_match 4 = .ok (.iload_n 1, 1) := by decide +kernel
theorem dX6_match_5 : decode cX6_match 5 = .ok (.invokevirtual 125, 3) := by decide +kernel
theorem dX6_match_8 : decode cX6_match 8 = .ok (.iconst (-1), 1) := by decide +kernel
theorem dX6_match_9 : decode cX6_match 9 = .ok (.if_icmp .ne 5, 3) := by decide +kernel
theorem dX6_match_12 : decode cX6_match 12 = .ok (.iconst (-1), 1) := by decide +kernel
theorem dX6_match_13 : decode cX6_match 13 = .ok (.ireturn, 1) := by decide +kernel
theorem dX6_match_14 : decode cX6_match 14 = .ok (.aload_n 0, 1) := by decide +kernel
theorem dX6_match_15 : decode cX6_match 15 = .ok (.getfield 43, 3) := by decide +kernel
theorem dX6_match_18 : decode cX6_match 18 = .ok (.aload_n 0, 1) := by decide +kernel
theorem dX6_match_19 : decode cX6_match 19 = .ok (.getfield 16, 3) := by decide +kernel
theorem dX6_match_22 : decode cX6_match 22 = .ok (.iload_n 1, 1) := by decide +kernel
theorem dX6_match_23 : decode cX6_match 23 = .ok (.invokevirtual 141, 3) := by decide +kernel
theorem dX6_match_26 : decode cX6_match 26 = .ok (.ireturn, 1) := by decide +kernel
theorem dX6_count_0 : decode cX6_count 0 = .ok (.iload_n 1, 1) := by decide +kernel
theorem dX6_count_1 : decode cX6_count 1 = .ok (.tableswitch 75 0 4 #[35, 43, 51, 59, 67], 35) := by decide +kernel
theorem dX6_count_36 : decode cX6_count 36 = .ok (.aload_n 0, 1) := by decide +kernel
theorem dX6_count_37 : decode cX6_count 37 = .ok (.getfield 16, 3) := by decide +kernel
theorem dX6_count_40 : decode cX6_count 40 = .ok (.invokevirtual 51, 3) := by decide +kernel
theorem dX6_count_43 : decode cX6_count 43 = .ok (.ireturn, 1) := by decide +kernel
theorem dX6_count_44 : decode cX6_count 44 = .ok (.aload_n 0, 1) := by decide +kernel
theorem dX6_count_45 : decode cX6_count 45 = .ok (.getfield 22, 3) := by decide +kernel
theorem dX6_count_48 : decode cX6_count 48 = .ok (.invokevirtual 109, 3) := by decide +kernel
theorem dX6_count_51 : decode cX6_count 51 = .ok (.ireturn, 1) := by decide +kernel
theorem dX6_count_52 : decode cX6_count 52 = .ok (.aload_n 0, 1) := by decide +kernel
theorem dX6_count_53 : decode cX6_count 53 = .ok (.getfield 10, 3) := by decide +kernel
theorem dX6_count_56 : decode cX6_count 56 = .ok (.invokevirtual 51, 3) := by decide +kernel
theorem dX6_count_59 : decode cX6_count 59 = .ok (.ireturn, 1) := by decide +kernel
theorem dX6_count_60 : decode cX6_count 60 = .ok (.aload_n 0, 1) := by decide +kernel
theorem dX6_count_61 : decode cX6_count 61 = .ok (.getfield 43, 3) := by decide +kernel
theorem dX6_count_64 : decode cX6_count 64 = .ok (.invokevirtual 74, 3) := by decide +kernel
theorem dX6_count_67 : decode cX6_count 67 = .ok (.ireturn, 1) := by decide +kernel
theorem dX6_count_68 : decode cX6_count 68 = .ok (.aload_n 0, 1) := by decide +kernel
theorem dX6_count_69 : decode cX6_count 69 = .ok (.getfield 29, 3) := by decide +kernel
theorem dX6_count_72 : decode cX6_count 72 = .ok (.invokevirtual 144, 3) := by decide +kernel
theorem dX6_count_75 : decode cX6_count 75 = .ok (.ireturn, 1) := by decide +kernel
theorem dX6_count_76 : decode cX6_count 76 = .ok (.iconst (-1), 1) := by decide +kernel
theorem dX6_count_77 : decode cX6_count 77 = .ok (.ireturn, 1) := by decide +kernel
theorem dX6_isLetter_0 : decode cX6_isLetter 0 = .ok (.iload_n 0, 1) := by decide +kernel
theorem dX6_isLetter_1 : decode cX6_isLetter 1 = .ok (.bipush 97, 2) := by decide +kernel
theorem dX6_isLetter_3 : decode cX6_isLetter 3 = .ok (.if_icmp .lt 9, 3) := by decide +kernel
theorem dX6_isLetter_6 : decode cX6_isLetter 6 = .ok (.iload_n 0, 1) := by decide +kernel
theorem dX6_isLetter_7 : decode cX6_isLetter 7 = .ok (.bipush 122, 2) := by decide +kernel
theorem dX6_isLetter_9 : decode cX6_isLetter 9 = .ok (.if_icmp .le 15, 3) := by decide +kernel
theorem dX6_isLetter_12 : decode cX6_isLetter 12 = .ok (.iload_n 0, 1) := by decide +kernel
theorem dX6_isLetter_13 : decode cX6_isLetter 13 = .ok (.bipush 65, 2) := by decide +kernel
theorem dX6_isLetter_15 : decode cX6_isLetter 15 = .ok (.if_icmp .lt 13, 3) := by decide +kernel
theorem dX6_isLetter_18 : decode cX6_isLetter 18 = .ok (.iload_n 0, 1) := by decide +kernel
theorem dX6_isLetter_19 : decode cX6_isLetter 19 = .ok (.bipush 90, 2) := by decide +kernel
theorem dX6_isLetter_21 : decode cX6_isLetter 21 = .ok (.if_icmp .gt 7, 3) := by decide +kernel
theorem dX6_isLetter_24 : decode cX6_isLetter 24 = .ok (.iconst 1, 1) := by decide +kernel
theorem dX6_isLetter_25 : decode cX6_isLetter 25 = .ok (.goto 4, 3) := by decide +kernel
theorem dX6_isLetter_28 : decode cX6_isLetter 28 = .ok (.iconst 0, 1) := by decide +kernel
theorem dX6_isLetter_29 : decode cX6_isLetter 29 = .ok (.ireturn, 1) := by decide +kernel
theorem dX6_isFigure_0 : decode cX6_isFigure 0 = .ok (.iload_n 0, 1) := by decide +kernel
theorem dX6_isFigure_1 : decode cX6_isFigure 1 = .ok (.bipush 48, 2) := by decide +kernel
theorem dX6_isFigure_3 : decode cX6_isFigure 3 = .ok (.if_icmp .lt 13, 3) := by decide +kernel
theorem dX6_isFigure_6 : decode cX6_isFigure 6 = .ok (.iload_n 0, 1) := by decide +kernel
theorem dX6_isFigure_7 : decode cX6_isFigure 7 = .ok (.bipush 57, 2) := by decide +kernel
theorem dX6_isFigure_9 : decode cX6_isFigure 9 = .ok (.if_icmp .gt 7, 3) := by decide +kernel
theorem dX6_isFigure_12 : decode cX6_isFigure 12 = .ok (.iconst 1, 1) := by decide +kernel
theorem dX6_isFigure_13 : decode cX6_isFigure 13 = .ok (.goto 4, 3) := by decide +kernel
theorem dX6_isFigure_16 : decode cX6_isFigure 16 = .ok (.iconst 0, 1) := by decide +kernel
theorem dX6_isFigure_17 : decode cX6_isFigure 17 = .ok (.ireturn, 1) := by decide +kernel
theorem dX6_isBlank_0 : decode cX6_isBlank 0 = .ok (.iload_n 0, 1) := by decide +kernel
theorem dX6_isBlank_1 : decode cX6_isBlank 1 = .ok (.bipush 32, 2) := by decide +kernel
theorem dX6_isBlank_3 : decode cX6_isBlank 3 = .ok (.if_icmp .eq 15, 3) := by decide +kernel
theorem dX6_isBlank_6 : decode cX6_isBlank 6 = .ok (.iload_n 0, 1) := by decide +kernel
theorem dX6_isBlank_7 : decode cX6_isBlank 7 = .ok (.bipush 9, 2) := by decide +kernel
theorem dX6_isBlank_9 : decode cX6_isBlank 9 = .ok (.if_icmp .eq 9, 3) := by decide +kernel
theorem dX6_isBlank_12 : decode cX6_isBlank 12 = .ok (.iload_n 0, 1) := by decide +kernel
theorem dX6_isBlank_13 : decode cX6_isBlank 13 = .ok (.bipush 10, 2) := by decide +kernel
theorem dX6_isBlank_15 : decode cX6_isBlank 15 = .ok (.if_icmp .ne 7, 3) := by decide +kernel
theorem dX6_isBlank_18 : decode cX6_isBlank 18 = .ok (.iconst 1, 1) := by decide +kernel
theorem dX6_isBlank_19 : decode cX6_isBlank 19 = .ok (.goto 4, 3) := by decide +kernel
theorem dX6_isBlank_22 : decode cX6_isBlank 22 = .ok (.iconst 0, 1) := by decide +kernel
theorem dX6_isBlank_23 : decode cX6_isBlank 23 = .ok (.ireturn, 1) := by decide +kernel
theorem dX6_isSolid_0 : decode cX6_isSolid 0 = .ok (.iload_n 0, 1) := by decide +kernel
theorem dX6_isSolid_1 : decode cX6_isSolid 1 = .ok (.iconst (-1), 1) := by decide +kernel
theorem dX6_isSolid_2 : decode cX6_isSolid 2 = .ok (.if_icmp .eq 14, 3) := by decide +kernel
theorem dX6_isSolid_5 : decode cX6_isSolid 5 = .ok (.iload_n 0, 1) := by decide +kernel
theorem dX6_isSolid_6 : decode cX6_isSolid 6 = .ok (.invokestatic 128, 3) := by decide +kernel
theorem dX6_isSolid_9 : decode cX6_isSolid 9 = .ok (.ifCond .ne 7, 3) := by decide +kernel
theorem dX6_isSolid_12 : decode cX6_isSolid 12 = .ok (.iconst 1, 1) := by decide +kernel
theorem dX6_isSolid_13 : decode cX6_isSolid 13 = .ok (.goto 4, 3) := by decide +kernel
theorem dX6_isSolid_16 : decode cX6_isSolid 16 = .ok (.iconst 0, 1) := by decide +kernel
theorem dX6_isSolid_17 : decode cX6_isSolid 17 = .ok (.ireturn, 1) := by decide +kernel
theorem dX6_isOther_0 : decode cX6_isOther 0 = .ok (.iload_n 0, 1) := by decide +kernel
theorem dX6_isOther_1 : decode cX6_isOther 1 = .ok (.invokestatic 131, 3) := by decide +kernel
theorem dX6_isOther_4 : decode cX6_isOther 4 = .ok (.ifCond .eq 21, 3) := by decide +kernel
theorem dX6_isOther_7 : decode cX6_isOther 7 = .ok (.iload_n 0, 1) := by decide +kernel
theorem dX6_isOther_8 : decode cX6_isOther 8 = .ok (.invokestatic 145, 3) := by decide +kernel
theorem dX6_isOther_11 : decode cX6_isOther 11 = .ok (.ifCond .ne 14, 3) := by decide +kernel
theorem dX6_isOther_14 : decode cX6_isOther 14 = .ok (.iload_n 0, 1) := by decide +kernel
theorem dX6_isOther_15 : decode cX6_isOther 15 = .ok (.invokestatic 148, 3) := by decide +kernel
theorem dX6_isOther_18 : decode cX6_isOther 18 = .ok (.ifCond .ne 7, 3) := by decide +kernel
theorem dX6_isOther_21 : decode cX6_isOther 21 = .ok (.iconst 1, 1) := by decide +kernel
theorem dX6_isOther_22 : decode cX6_isOther 22 = .ok (.goto 4, 3) := by decide +kernel
theorem dX6_isOther_25 : decode cX6_isOther 25 = .ok (.iconst 0, 1) := by decide +kernel
theorem dX6_isOther_26 : decode cX6_isOther 26 = .ok (.ireturn, 1) := by decide +kernel
theorem dX6_isCost_0 : decode cX6_isCost 0 = .ok (.iload_n 0, 1) := by decide +kernel
theorem dX6_isCost_1 : decode cX6_isCost 1 = .ok (.iconst 1, 1) := by decide +kernel
theorem dX6_isCost_2 : decode cX6_isCost 2 = .ok (.if_icmp .lt 14, 3) := by decide +kernel
theorem dX6_isCost_5 : decode cX6_isCost 5 = .ok (.iload_n 0, 1) := by decide +kernel
theorem dX6_isCost_6 : decode cX6_isCost 6 = .ok (.sipush 1000, 3) := by decide +kernel
theorem dX6_isCost_9 : decode cX6_isCost 9 = .ok (.if_icmp .gt 7, 3) := by decide +kernel
theorem dX6_isCost_12 : decode cX6_isCost 12 = .ok (.iconst 1, 1) := by decide +kernel
theorem dX6_isCost_13 : decode cX6_isCost 13 = .ok (.goto 4, 3) := by decide +kernel
theorem dX6_isCost_16 : decode cX6_isCost 16 = .ok (.iconst 0, 1) := by decide +kernel
theorem dX6_isCost_17 : decode cX6_isCost 17 = .ok (.ireturn, 1) := by decide +kernel
theorem dX6_cutMatches_0 : decode cX6_cutMatches 0 = .ok (.iconst 0, 1) := by decide +kernel
theorem dX6_cutMatches_1 : decode cX6_cutMatches 1 = .ok (.istore_n 1, 1) := by decide +kernel
theorem dX6_cutMatches_2 : decode cX6_cutMatches 2 = .ok (.iload_n 1, 1) := by decide +kernel
theorem dX6_cutMatches_3 : decode cX6_cutMatches 3 = .ok (.aload_n 0, 1) := by decide +kernel
theorem dX6_cutMatches_4 : decode cX6_cutMatches 4 = .ok (.getfield 16, 3) := by decide +kernel
theorem dX6_cutMatches_7 : decode cX6_cutMatches 7 = .ok (.invokevirtual 51, 3) := by decide +kernel
theorem dX6_cutMatches_10 : decode cX6_cutMatches 10 = .ok (.if_icmp .ge 42, 3) := by decide +kernel
theorem dX6_cutMatches_13 : decode cX6_cutMatches 13 = .ok (.aload_n 0, 1) := by decide +kernel
theorem dX6_cutMatches_14 : decode cX6_cutMatches 14 = .ok (.getfield 43, 3) := by decide +kernel
theorem dX6_cutMatches_17 : decode cX6_cutMatches 17 = .ok (.aload_n 0, 1) := by decide +kernel
theorem dX6_cutMatches_18 : decode cX6_cutMatches 18 = .ok (.getfield 16, 3) := by decide +kernel
theorem dX6_cutMatches_21 : decode cX6_cutMatches 21 = .ok (.iload_n 1, 1) := by decide +kernel
theorem dX6_cutMatches_22 : decode cX6_cutMatches 22 = .ok (.invokevirtual 141, 3) := by decide +kernel
theorem dX6_cutMatches_25 : decode cX6_cutMatches 25 = .ok (.istore_n 2, 1) := by decide +kernel
theorem dX6_cutMatches_26 : decode cX6_cutMatches 26 = .ok (.iload_n 2, 1) := by decide +kernel
theorem dX6_cutMatches_27 : decode cX6_cutMatches 27 = .ok (.ifCond .le 14, 3) := by decide +kernel
theorem dX6_cutMatches_30 : decode cX6_cutMatches 30 = .ok (.aload_n 0, 1) := by decide +kernel
theorem dX6_cutMatches_31 : decode cX6_cutMatches 31 = .ok (.getfield 22, 3) := by decide +kernel
theorem dX6_cutMatches_34 : decode cX6_cutMatches 34 = .ok (.iload_n 1, 1) := by decide +kernel
theorem dX6_cutMatches_35 : decode cX6_cutMatches 35 = .ok (.iload_n 1, 1) := by decide +kernel
theorem dX6_cutMatches_36 : decode cX6_cutMatches 36 = .ok (.iload_n 2, 1) := by decide +kernel
theorem dX6_cutMatches_37 : decode cX6_cutMatches 37 = .ok (.iadd, 1) := by decide +kernel
theorem dX6_cutMatches_38 : decode cX6_cutMatches 38 = .ok (.invokevirtual 151, 3) := by decide +kernel
theorem dX6_cutMatches_41 : decode cX6_cutMatches 41 = .ok (.iload_n 1, 1) := by decide +kernel
theorem dX6_cutMatches_42 : decode cX6_cutMatches 42 = .ok (.iconst 1, 1) := by decide +kernel
theorem dX6_cutMatches_43 : decode cX6_cutMatches 43 = .ok (.iload_n 2, 1) := by decide +kernel
theorem dX6_cutMatches_44 : decode cX6_cutMatches 44 = .ok (.invokestatic 155, 3) := by decide +kernel
theorem dX6_cutMatches_47 : decode cX6_cutMatches 47 = .ok (.iadd, 1) := by decide +kernel
theorem dX6_cutMatches_48 : decode cX6_cutMatches 48 = .ok (.istore_n 1, 1) := by decide +kernel
theorem dX6_cutMatches_49 : decode cX6_cutMatches 49 = .ok (.goto (-47), 3) := by decide +kernel
theorem dX6_cutMatches_52 : decode cX6_cutMatches 52 = .ok (.return_, 1) := by decide +kernel
theorem dX6_cutRows_0 : decode cX6_cutRows 0 = .ok (.iconst 0, 1) := by decide +kernel
theorem dX6_cutRows_1 : decode cX6_cutRows 1 = .ok (.istore 4, 2) := by decide +kernel
theorem dX6_cutRows_3 : decode cX6_cutRows 3 = .ok (.iload 4, 2) := by decide +kernel
theorem dX6_cutRows_5 : decode cX6_cutRows 5 = .ok (.aload_n 0, 1) := by decide +kernel
theorem dX6_cutRows_6 : decode cX6_cutRows 6 = .ok (.getfield 16, 3) := by decide +kernel
theorem dX6_cutRows_9 : decode cX6_cutRows 9 = .ok (.invokevirtual 51, 3) := by decide +kernel
theorem dX6_cutRows_12 : decode cX6_cutRows 12 = .ok (.if_icmp .ge 91, 3) := by decide +kernel
theorem dX6_cutRows_15 : decode cX6_cutRows 15 = .ok (.aload_n 0, 1) := by decide +kernel
theorem dX6_cutRows_16 : decode cX6_cutRows 16 = .ok (.getfield 22, 3) := by decide +kernel
theorem dX6_cutRows_19 : decode cX6_cutRows 19 = .ok (.invokevirtual 105, 3) := by decide +kernel
theorem dX6_cutRows_22 : decode cX6_cutRows 22 = .ok (.ifCond .ne 81, 3) := by decide +kernel
theorem dX6_cutRows_25 : decode cX6_cutRows 25 = .ok (.iload_n 1, 1) := by decide +kernel
theorem dX6_cutRows_26 : decode cX6_cutRows 26 = .ok (.iconst 2, 1) := by decide +kernel
theorem dX6_cutRows_27 : decode cX6_cutRows 27 = .ok (.if_icmp .ne 23, 3) := by decide +kernel
theorem dX6_cutRows_30 : decode cX6_cutRows 30 = .ok (.aload_n 0, 1) := by decide +kernel
theorem dX6_cutRows_31 : decode cX6_cutRows 31 = .ok (.getfield 47, 3) := by decide +kernel
theorem dX6_cutRows_34 : decode cX6_cutRows 34 = .ok (.ifCond .eq 16, 3) := by decide +kernel
theorem dX6_cutRows_37 : decode cX6_cutRows 37 = .ok (.aload_n 0, 1) := by decide +kernel
theorem dX6_cutRows_38 : decode cX6_cutRows 38 = .ok (.iload 4, 2) := by decide +kernel
theorem dX6_cutRows_40 : decode cX6_cutRows 40 = .ok (.invokevirtual 160, 3) := by decide +kernel
theorem dX6_cutRows_43 : decode cX6_cutRows 43 = .ok (.ifCond .eq 7, 3) := by decide +kernel
theorem dX6_cutRows_46 : decode cX6_cutRows 46 = .ok (.iconst 1, 1) := by decide +kernel
theorem dX6_cutRows_47 : decode cX6_cutRows 47 = .ok (.goto 4, 3) := by decide +kernel
theorem dX6_cutRows_50 : decode cX6_cutRows 50 = .ok (.iconst 0, 1) := by decide +kernel
theorem dX6_cutRows_51 : decode cX6_cutRows 51 = .ok (.istore 5, 2) := by decide +kernel
theorem dX6_cutRows_53 : decode cX6_cutRows 53 = .ok (.aload_n 0, 1) := by decide +kernel
theorem dX6_cutRows_54 : decode cX6_cutRows 54 = .ok (.iload 5, 2) := by decide +kernel
theorem dX6_cutRows_56 : decode cX6_cutRows 56 = .ok (.ifCond .eq 7, 3) := by decide +kernel
theorem dX6_cutRows_59 : decode cX6_cutRows 59 = .ok (.iconst 1, 1) := by decide +kernel
theorem dX6_cutRows_60 : decode cX6_cutRows 60 = .ok (.goto 4, 3) := by decide +kernel
theorem dX6_cutRows_63 : decode cX6_cutRows 63 = .ok (.iload_n 1, 1) := by decide +kernel
theorem dX6_cutRows_64 : decode cX6_cutRows 64 = .ok (.iload 4, 2) := by decide +kernel
theorem dX6_cutRows_66 : decode cX6_cutRows 66 = .ok (.invokevirtual 134, 3) := by decide +kernel
theorem dX6_cutRows_69 : decode cX6_cutRows 69 = .ok (.istore 6, 2) := by decide +kernel
theorem dX6_cutRows_71 : decode cX6_cutRows 71 = .ok (.iload 6, 2) := by decide +kernel
theorem dX6_cutRows_73 : decode cX6_cutRows 73 = .ok (.iload 4, 2) := by decide +kernel
theorem dX6_cutRows_75 : decode cX6_cutRows 75 = .ok (.if_icmp .le 14, 3) := by decide +kernel
theorem dX6_cutRows_78 : decode cX6_cutRows 78 = .ok (.aload_n 0, 1) := by decide +kernel
theorem dX6_cutRows_79 : decode cX6_cutRows 79 = .ok (.iload_n 1, 1) := by decide +kernel
theorem dX6_cutRows_80 : decode cX6_cutRows 80 = .ok (.iload 4, 2) := by decide +kernel
theorem dX6_cutRows_82 : decode cX6_cutRows 82 = .ok (.iload 6, 2) := by decide +kernel
theorem dX6_cutRows_84 : decode cX6_cutRows 84 = .ok (.iload_n 2, 1) := by decide +kernel
theorem dX6_cutRows_85 : decode cX6_cutRows 85 = .ok (.iload_n 3, 1) := by decide +kernel
theorem dX6_cutRows_86 : decode cX6_cutRows 86 = .ok (.invokevirtual 163, 3) := by decide +kernel
theorem dX6_cutRows_89 : decode cX6_cutRows 89 = .ok (.iload 4, 2) := by decide +kernel
theorem dX6_cutRows_91 : decode cX6_cutRows 91 = .ok (.iload 6, 2) := by decide +kernel
theorem dX6_cutRows_93 : decode cX6_cutRows 93 = .ok (.invokestatic 155, 3) := by decide +kernel
theorem dX6_cutRows_96 : decode cX6_cutRows 96 = .ok (.iconst 1, 1) := by decide +kernel
theorem dX6_cutRows_97 : decode cX6_cutRows 97 = .ok (.iadd, 1) := by decide +kernel
theorem dX6_cutRows_98 : decode cX6_cutRows 98 = .ok (.istore 4, 2) := by decide +kernel
theorem dX6_cutRows_100 : decode cX6_cutRows 100 = .ok (.goto (-97), 3) := by decide +kernel
theorem dX6_cutRows_103 : decode cX6_cutRows 103 = .ok (.return_, 1) := by decide +kernel
theorem dX6_cutRow_0 : decode cX6_cutRow 0 = .ok (.iload_n 1, 1) := by decide +kernel
theorem dX6_cutRow_1 : decode cX6_cutRow 1 = .ok (.tableswitch 128 4 8 #[35, 44, 83, 96, 119], 35) := by decide +kernel
theorem dX6_cutRow_36 : decode cX6_cutRow 36 = .ok (.aload_n 0, 1) := by decide +kernel
theorem dX6_cutRow_37 : decode cX6_cutRow 37 = .ok (.iload_n 2, 1) := by decide +kernel
theorem dX6_cutRow_38 : decode cX6_cutRow 38 = .ok (.iload_n 3, 1) := by decide +kernel
theorem dX6_cutRow_39 : decode cX6_cutRow 39 = .ok (.invokevirtual 167, 3) := by decide +kernel
theorem dX6_cutRow_42 : decode cX6_cutRow 42 = .ok (.goto 96, 3) := by decide +kernel
theorem dX6_cutRow_45 : decode cX6_cutRow 45 = .ok (.iload_n 2, 1) := by decide +kernel
theorem dX6_cutRow_46 : decode cX6_cutRow 46 = .ok (.istore 6, 2) := by decide +kernel
theorem dX6_cutRow_48 : decode cX6_cutRow 48 = .ok (.iload 6, 2) := by decide +kernel
theorem dX6_cutRow_50 : decode cX6_cutRow 50 = .ok (.iload_n 3, 1) := by decide +kernel
theorem dX6_cutRow_51 : decode cX6_cutRow 51 = .ok (.if_icmp .ge 30, 3) := by decide +kernel
theorem dX6_cutRow_54 : decode cX6_cutRow 54 = .ok (.aload_n 0, 1) := by decide +kernel
theorem dX6_cutRow_55 : decode cX6_cutRow 55 = .ok (.getfield 22, 3) := by decide +kernel
theorem dX6_cutRow_58 : decode cX6_cutRow 58 = .ok (.invokevirtual 105, 3) := by decide +kernel
theorem dX6_cutRow_61 : decode cX6_cutRow 61 = .ok (.ifCond .ne 20, 3) := by decide +kernel
theorem dX6_cutRow_64 : decode cX6_cutRow 64 = .ok (.aload_n 0, 1) := by decide +kernel
theorem dX6_cutRow_65 : decode cX6_cutRow 65 = .ok (.iload 6, 2) := by decide +kernel
theorem dX6_cutRow_67 : decode cX6_cutRow 67 = .ok (.iload_n 3, 1) := by decide +kernel
theorem dX6_cutRow_68 : decode cX6_cutRow 68 = .ok (.iload 4, 2) := by decide +kernel
theorem dX6_cutRow_70 : decode cX6_cutRow 70 = .ok (.iload 5, 2) := by decide +kernel
theorem dX6_cutRow_72 : decode cX6_cutRow 72 = .ok (.invokevirtual 170, 3) := by decide +kernel
theorem dX6_cutRow_75 : decode cX6_cutRow 75 = .ok (.iinc 6 1, 3) := by decide +kernel
theorem dX6_cutRow_78 : decode cX6_cutRow 78 = .ok (.goto (-30), 3) := by decide +kernel
theorem dX6_cutRow_81 : decode cX6_cutRow 81 = .ok (.goto 57, 3) := by decide +kernel
theorem dX6_cutRow_84 : decode cX6_cutRow 84 = .ok (.aload_n 0, 1) := by decide +kernel
theorem dX6_cutRow_85 : decode cX6_cutRow 85 = .ok (.iload_n 2, 1) := by decide +kernel
theorem dX6_cutRow_86 : decode cX6_cutRow 86 = .ok (.iload_n 3, 1) := by decide +kernel
theorem dX6_cutRow_87 : decode cX6_cutRow 87 = .ok (.iload 4, 2) := by decide +kernel
theorem dX6_cutRow_89 : decode cX6_cutRow 89 = .ok (.iload 5, 2) := by decide +kernel
theorem dX6_cutRow_91 : decode cX6_cutRow 91 = .ok (.invokevirtual 170, 3) := by decide +kernel
theorem dX6_cutRow_94 : decode cX6_cutRow 94 = .ok (.goto 44, 3) := by decide +kernel
theorem dX6_cutRow_97 : decode cX6_cutRow 97 = .ok (.aload_n 0, 1) := by decide +kernel
theorem dX6_cutRow_98 : decode cX6_cutRow 98 = .ok (.getfield 29, 3) := by decide +kernel
theorem dX6_cutRow_101 : decode cX6_cutRow 101 = .ok (.aload_n 0, 1) := by decide +kernel
theorem dX6_cutRow_102 : decode cX6_cutRow 102 = .ok (.getfield 16, 3) := by decide +kernel
theorem dX6_cutRow_105 : decode cX6_cutRow 105 = .ok (.iload_n 2, 1) := by decide +kernel
theorem dX6_cutRow_106 : decode cX6_cutRow 106 = .ok (.iload_n 3, 1) := by decide +kernel
theorem dX6_cutRow_107 : decode cX6_cutRow 107 = .ok (.invokevirtual 137, 3) := by decide +kernel
theorem dX6_cutRow_110 : decode cX6_cutRow 110 = .ok (.pop, 1) := by decide +kernel
theorem dX6_cutRow_111 : decode cX6_cutRow 111 = .ok (.aload_n 0, 1) := by decide +kernel
theorem dX6_cutRow_112 : decode cX6_cutRow 112 = .ok (.iload_n 2, 1) := by decide +kernel
theorem dX6_cutRow_113 : decode cX6_cutRow 113 = .ok (.iload_n 3, 1) := by decide +kernel
theorem dX6_cutRow_114 : decode cX6_cutRow 114 = .ok (.invokevirtual 174, 3) := by decide +kernel
theorem dX6_cutRow_117 : decode cX6_cutRow 117 = .ok (.goto 21, 3) := by decide +kernel
theorem dX6_cutRow_120 : decode cX6_cutRow 120 = .ok (.aload_n 0, 1) := by decide +kernel
theorem dX6_cutRow_121 : decode cX6_cutRow 121 = .ok (.iload_n 2, 1) := by decide +kernel
theorem dX6_cutRow_122 : decode cX6_cutRow 122 = .ok (.iload_n 3, 1) := by decide +kernel
theorem dX6_cutRow_123 : decode cX6_cutRow 123 = .ok (.invokevirtual 177, 3) := by decide +kernel
theorem dX6_cutRow_126 : decode cX6_cutRow 126 = .ok (.goto 12, 3) := by decide +kernel
theorem dX6_cutRow_129 : decode cX6_cutRow 129 = .ok (.aload_n 0, 1) := by decide +kernel
theorem dX6_cutRow_130 : decode cX6_cutRow 130 = .ok (.getfield 22, 3) := by decide +kernel
theorem dX6_cutRow_133 : decode cX6_cutRow 133 = .ok (.iload_n 2, 1) := by decide +kernel
theorem dX6_cutRow_134 : decode cX6_cutRow 134 = .ok (.iload_n 3, 1) := by decide +kernel
theorem dX6_cutRow_135 : decode cX6_cutRow 135 = .ok (.invokevirtual 151, 3) := by decide +kernel
theorem dX6_cutRow_138 : decode cX6_cutRow 138 = .ok (.return_, 1) := by decide +kernel
theorem dX6_cutPaths_0 : decode cX6_cutPaths 0 = .ok (.iload_n 1, 1) := by decide +kernel
theorem dX6_cutPaths_1 : decode cX6_cutPaths 1 = .ok (.iconst 1, 1) := by decide +kernel
theorem dX6_cutPaths_2 : decode cX6_cutPaths 2 = .ok (.iadd, 1) := by decide +kernel
theorem dX6_cutPaths_3 : decode cX6_cutPaths 3 = .ok (.istore_n 3, 1) := by decide +kernel
theorem dX6_cutPaths_4 : decode cX6_cutPaths 4 = .ok (.iload_n 3, 1) := by decide +kernel
theorem dX6_cutPaths_5 : decode cX6_cutPaths 5 = .ok (.iload_n 2, 1) := by decide +kernel
theorem dX6_cutPaths_6 : decode cX6_cutPaths 6 = .ok (.if_icmp .ge 31, 3) := by decide +kernel
theorem dX6_cutPaths_9 : decode cX6_cutPaths 9 = .ok (.aload_n 0, 1) := by decide +kernel
theorem dX6_cutPaths_10 : decode cX6_cutPaths 10 = .ok (.getfield 16, 3) := by decide +kernel
theorem dX6_cutPaths_13 : decode cX6_cutPaths 13 = .ok (.iload_n 3, 1) := by decide +kernel
theorem dX6_cutPaths_14 : decode cX6_cutPaths 14 = .ok (.invokevirtual 125, 3) := by decide +kernel
theorem dX6_cutPaths_17 : decode cX6_cutPaths 17 = .ok (.bipush 47, 2) := by decide +kernel
theorem dX6_cutPaths_19 : decode cX6_cutPaths 19 = .ok (.if_icmp .ne 12, 3) := by decide +kernel
theorem dX6_cutPaths_22 : decode cX6_cutPaths 22 = .ok (.aload_n 0, 1) := by decide +kernel
theorem dX6_cutPaths_23 : decode cX6_cutPaths 23 = .ok (.getfield 22, 3) := by decide +kernel
theorem dX6_cutPaths_26 : decode cX6_cutPaths 26 = .ok (.iload_n 1, 1) := by decide +kernel
theorem dX6_cutPaths_27 : decode cX6_cutPaths 27 = .ok (.iload_n 3, 1) := by decide +kernel
theorem dX6_cutPaths_28 : decode cX6_cutPaths 28 = .ok (.invokevirtual 151, 3) := by decide +kernel
theorem dX6_cutPaths_31 : decode cX6_cutPaths 31 = .ok (.iinc 3 1, 3) := by decide +kernel
theorem dX6_cutPaths_34 : decode cX6_cutPaths 34 = .ok (.goto (-30), 3) := by decide +kernel
theorem dX6_cutPaths_37 : decode cX6_cutPaths 37 = .ok (.aload_n 0, 1) := by decide +kernel
theorem dX6_cutPaths_38 : decode cX6_cutPaths 38 = .ok (.getfield 22, 3) := by decide +kernel
theorem dX6_cutPaths_41 : decode cX6_cutPaths 41 = .ok (.iload_n 1, 1) := by decide +kernel
theorem dX6_cutPaths_42 : decode cX6_cutPaths 42 = .ok (.iload_n 2, 1) := by decide +kernel
theorem dX6_cutPaths_43 : decode cX6_cutPaths 43 = .ok (.invokevirtual 151, 3) := by decide +kernel
theorem dX6_cutPaths_46 : decode cX6_cutPaths 46 = .ok (.return_, 1) := by decide +kernel
theorem dX6_cutSizes_0 : decode cX6_cutSizes 0 = .ok (.iload_n 2, 1) := by decide +kernel
theorem dX6_cutSizes_1 : decode cX6_cutSizes 1 = .ok (.iload_n 1, 1) := by decide +kernel
theorem dX6_cutSizes_2 : decode cX6_cutSizes 2 = .ok (.iload 4, 2) := by decide +kernel
theorem dX6_cutSizes_4 : decode cX6_cutSizes 4 = .ok (.iadd, 1) := by decide +kernel
theorem dX6_cutSizes_5 : decode cX6_cutSizes 5 = .ok (.invokestatic 180, 3) := by decide +kernel
theorem dX6_cutSizes_8 : decode cX6_cutSizes 8 = .ok (.istore 5, 2) := by decide +kernel
theorem dX6_cutSizes_10 : decode cX6_cutSizes 10 = .ok (.iload_n 1, 1) := by decide +kernel
theorem dX6_cutSizes_11 : decode cX6_cutSizes 11 = .ok (.iload_n 3, 1) := by decide +kernel
theorem dX6_cutSizes_12 : decode cX6_cutSizes 12 = .ok (.iadd, 1) := by decide +kernel
theorem dX6_cutSizes_13 : decode cX6_cutSizes 13 = .ok (.istore 6, 2) := by decide +kernel
theorem dX6_cutSizes_15 : decode cX6_cutSizes 15 = .ok (.iload 6, 2) := by decide +kernel
theorem dX6_cutSizes_17 : decode cX6_cutSizes 17 = .ok (.iload 5, 2) := by decide +kernel
theorem dX6_cutSizes_19 : decode cX6_cutSizes 19 = .ok (.if_icmp .gt 19, 3) := by decide +kernel
theorem dX6_cutSizes_22 : decode cX6_cutSizes 22 = .ok (.aload_n 0, 1) := by decide +kernel
theorem dX6_cutSizes_23 : decode cX6_cutSizes 23 = .ok (.getfield 22, 3) := by decide +kernel
theorem dX6_cutSizes_26 : decode cX6_cutSizes 26 = .ok (.iload_n 1, 1) := by decide +kernel
theorem dX6_cutSizes_27 : decode cX6_cutSizes 27 = .ok (.iload 6, 2) := by decide +kernel
theorem dX6_cutSizes_29 : decode cX6_cutSizes 29 = .ok (.invokevirtual 151, 3) := by decide +kernel
theorem dX6_cutSizes_32 : decode cX6_cutSizes 32 = .ok (.iinc 6 1, 3) := by decide +kernel
theorem dX6_cutSizes_35 : decode cX6_cutSizes 35 = .ok (.goto (-20), 3) := by decide +kernel
theorem dX6_cutSizes_38 : decode cX6_cutSizes 38 = .ok (.return_, 1) := by decide +kernel
theorem dX6_cutPieces_0 : decode cX6_cutPieces 0 = .ok (.iload_n 1, 1) := by decide +kernel
theorem dX6_cutPieces_1 : decode cX6_cutPieces 1 = .ok (.istore_n 3, 1) := by decide +kernel
theorem dX6_cutPieces_2 : decode cX6_cutPieces 2 = .ok (.iload_n 3, 1) := by decide +kernel
theorem dX6_cutPieces_3 : decode cX6_cutPieces 3 = .ok (.iload_n 2, 1) := by decide +kernel
theorem dX6_cutPieces_4 : decode cX6_cutPieces 4 = .ok (.if_icmp .ge 76, 3) := by decide +kernel
theorem dX6_cutPieces_7 : decode cX6_cutPieces 7 = .ok (.iload_n 3, 1) := by decide +kernel
theorem dX6_cutPieces_8 : decode cX6_cutPieces 8 = .ok (.iconst 1, 1) := by decide +kernel
theorem dX6_cutPieces_9 : decode cX6_cutPieces 9 = .ok (.iadd, 1) := by decide +kernel
theorem dX6_cutPieces_10 : decode cX6_cutPieces 10 = .ok (.istore 4, 2) := by decide +kernel
theorem dX6_cutPieces_12 : decode cX6_cutPieces 12 = .ok (.aload_n 0, 1) := by decide +kernel
theorem dX6_cutPieces_13 : decode cX6_cutPieces 13 = .ok (.getfield 29, 3) := by decide +kernel
theorem dX6_cutPieces_16 : decode cX6_cutPieces 16 = .ok (.iload_n 3, 1) := by decide +kernel
theorem dX6_cutPieces_17 : decode cX6_cutPieces 17 = .ok (.invokevirtual 183, 3) := by decide +kernel
theorem dX6_cutPieces_20 : decode cX6_cutPieces 20 = .ok (.ifCond .eq 27, 3) := by decide +kernel
theorem dX6_cutPieces_23 : decode cX6_cutPieces 23 = .ok (.iload 4, 2) := by decide +kernel
theorem dX6_cutPieces_25 : decode cX6_cutPieces 25 = .ok (.iload_n 2, 1) := by decide +kernel
theorem dX6_cutPieces_26 : decode cX6_cutPieces 26 = .ok (.if_icmp .ge 38, 3) := by decide +kernel
theorem dX6_cutPieces_29 : decode cX6_cutPieces 29 = .ok (.aload_n 0, 1) := by decide +kernel
theorem dX6_cutPieces_30 : decode cX6_cutPieces 30 = .ok (.getfield 29, 3) := by decide +kernel
theorem dX6_cutPieces_33 : decode cX6_cutPieces 33 = .ok (.iload 4, 2) := by decide +kernel
theorem dX6_cutPieces_35 : decode cX6_cutPieces 35 = .ok (.invokevirtual 183, 3) := by decide +kernel
theorem dX6_cutPieces_38 : decode cX6_cutPieces 38 = .ok (.ifCond .eq 26, 3) := by decide +kernel
theorem dX6_cutPieces_41 : decode cX6_cutPieces 41 = .ok (.iinc 4 1, 3) := by decide +kernel
theorem dX6_cutPieces_44 : decode cX6_cutPieces 44 = .ok (.goto (-21), 3) := by decide +kernel
theorem dX6_cutPieces_47 : decode cX6_cutPieces 47 = .ok (.iload 4, 2) := by decide +kernel
theorem dX6_cutPieces_49 : decode cX6_cutPieces 49 = .ok (.iload_n 3, 1) := by decide +kernel
theorem dX6_cutPieces_50 : decode cX6_cutPieces 50 = .ok (.aload_n 0, 1) := by decide +kernel
theorem dX6_cutPieces_51 : decode cX6_cutPieces 51 = .ok (.getfield 29, 3) := by decide +kernel
theorem dX6_cutPieces_54 : decode cX6_cutPieces 54 = .ok (.iload_n 3, 1) := by decide +kernel
theorem dX6_cutPieces_55 : decode cX6_cutPieces 55 = .ok (.invokevirtual 186, 3) := by decide +kernel
theorem dX6_cutPieces_58 : decode cX6_cutPieces 58 = .ok (.iadd, 1) := by decide +kernel
theorem dX6_cutPieces_59 : decode cX6_cutPieces 59 = .ok (.invokestatic 155, 3) := by decide +kernel
theorem dX6_cutPieces_62 : decode cX6_cutPieces 62 = .ok (.istore 4, 2) := by decide +kernel
theorem dX6_cutPieces_64 : decode cX6_cutPieces 64 = .ok (.aload_n 0, 1) := by decide +kernel
theorem dX6_cutPieces_65 : decode cX6_cutPieces 65 = .ok (.getfield 22, 3) := by decide +kernel
theorem dX6_cutPieces_68 : decode cX6_cutPieces 68 = .ok (.iload_n 3, 1) := by decide +kernel
theorem dX6_cutPieces_69 : decode cX6_cutPieces 69 = .ok (.iload 4, 2) := by decide +kernel
theorem dX6_cutPieces_71 : decode cX6_cutPieces 71 = .ok (.invokevirtual 151, 3) := by decide +kernel
theorem dX6_cutPieces_74 : decode cX6_cutPieces 74 = .ok (.iload 4, 2) := by decide +kernel
theorem dX6_cutPieces_76 : decode cX6_cutPieces 76 = .ok (.istore_n 3, 1) := by decide +kernel
theorem dX6_cutPieces_77 : decode cX6_cutPieces 77 = .ok (.goto (-75), 3) := by decide +kernel
theorem dX6_cutPieces_80 : decode cX6_cutPieces 80 = .ok (.return_, 1) := by decide +kernel
theorem dX6_cutPairs_0 : decode cX6_cutPairs 0 = .ok (.iload_n 2, 1) := by decide +kernel
theorem dX6_cutPairs_1 : decode cX6_cutPairs 1 = .ok (.iload_n 1, 1) := by decide +kernel
theorem dX6_cutPairs_2 : decode cX6_cutPairs 2 = .ok (.isub, 1) := by decide +kernel
theorem dX6_cutPairs_3 : decode cX6_cutPairs 3 = .ok (.iconst 1, 1) := by decide +kernel
theorem dX6_cutPairs_4 : decode cX6_cutPairs 4 = .ok (.if_icmp .ne 12, 3) := by decide +kernel
theorem dX6_cutPairs_7 : decode cX6_cutPairs 7 = .ok (.aload_n 0, 1) := by decide +kernel
theorem dX6_cutPairs_8 : decode cX6_cutPairs 8 = .ok (.getfield 22, 3) := by decide +kernel
theorem dX6_cutPairs_11 : decode cX6_cutPairs 11 = .ok (.iload_n 1, 1) := by decide +kernel
theorem dX6_cutPairs_12 : decode cX6_cutPairs 12 = .ok (.iload_n 2, 1) := by decide +kernel
theorem dX6_cutPairs_13 : decode cX6_cutPairs 13 = .ok (.invokevirtual 151, 3) := by decide +kernel
theorem dX6_cutPairs_16 : decode cX6_cutPairs 16 = .ok (.iload_n 1, 1) := by decide +kernel
theorem dX6_cutPairs_17 : decode cX6_cutPairs 17 = .ok (.istore_n 3, 1) := by decide +kernel
theorem dX6_cutPairs_18 : decode cX6_cutPairs 18 = .ok (.iload_n 3, 1) := by decide +kernel
theorem dX6_cutPairs_19 : decode cX6_cutPairs 19 = .ok (.iconst 1, 1) := by decide +kernel
theorem dX6_cutPairs_20 : decode cX6_cutPairs 20 = .ok (.iadd, 1) := by decide +kernel
theorem dX6_cutPairs_21 : decode cX6_cutPairs 21 = .ok (.iload_n 2, 1) := by decide +kernel
theorem dX6_cutPairs_22 : decode cX6_cutPairs 22 = .ok (.if_icmp .ge 20, 3) := by decide +kernel
theorem dX6_cutPairs_25 : decode cX6_cutPairs 25 = .ok (.aload_n 0, 1) := by decide +kernel
theorem dX6_cutPairs_26 : decode cX6_cutPairs 26 = .ok (.getfield 22, 3) := by decide +kernel
theorem dX6_cutPairs_29 : decode cX6_cutPairs 29 = .ok (.iload_n 3, 1) := by decide +kernel
theorem dX6_cutPairs_30 : decode cX6_cutPairs 30 = .ok (.iload_n 3, 1) := by decide +kernel
theorem dX6_cutPairs_31 : decode cX6_cutPairs 31 = .ok (.iconst 2, 1) := by decide +kernel
theorem dX6_cutPairs_32 : decode cX6_cutPairs 32 = .ok (.iadd, 1) := by decide +kernel
theorem dX6_cutPairs_33 : decode cX6_cutPairs 33 = .ok (.invokevirtual 151, 3) := by decide +kernel
theorem dX6_cutPairs_36 : decode cX6_cutPairs 36 = .ok (.iinc 3 1, 3) := by decide +kernel
theorem dX6_cutPairs_39 : decode cX6_cutPairs 39 = .ok (.goto (-21), 3) := by decide +kernel
theorem dX6_cutPairs_42 : decode cX6_cutPairs 42 = .ok (.return_, 1) := by decide +kernel
theorem dX6_endOfKind_0 : decode cX6_endOfKind 0 = .ok (.iload_n 2, 1) := by decide +kernel
theorem dX6_endOfKind_1 : decode cX6_endOfKind 1 = .ok (.istore_n 3, 1) := by decide +kernel
theorem dX6_endOfKind_2 : decode cX6_endOfKind 2 = .ok (.iload_n 3, 1) := by decide +kernel
theorem dX6_endOfKind_3 : decode cX6_endOfKind 3 = .ok (.aload_n 0, 1) := by decide +kernel
theorem dX6_endOfKind_4 : decode cX6_endOfKind 4 = .ok (.getfield 16, 3) := by decide +kernel
theorem dX6_endOfKind_7 : decode cX6_endOfKind 7 = .ok (.invokevirtual 51, 3) := by decide +kernel
theorem dX6_endOfKind_10 : decode cX6_endOfKind 10 = .ok (.if_icmp .ge 18, 3) := by decide +kernel
theorem dX6_endOfKind_13 : decode cX6_endOfKind 13 = .ok (.aload_n 0, 1) := by decide +kernel
theorem dX6_endOfKind_14 : decode cX6_endOfKind 14 = .ok (.iload_n 1, 1) := by decide +kernel
theorem dX6_endOfKind_15 : decode cX6_endOfKind 15 = .ok (.iload_n 3, 1) := by decide +kernel
theorem dX6_endOfKind_16 : decode cX6_endOfKind 16 = .ok (.invokevirtual 189, 3) := by decide +kernel
theorem dX6_endOfKind_19 : decode cX6_endOfKind 19 = .ok (.ifCond .eq 9, 3) := by decide +kernel
theorem dX6_endOfKind_22 : decode cX6_endOfKind 22 = .ok (.iinc 3 1, 3) := by decide +kernel
theorem dX6_endOfKind_25 : decode cX6_endOfKind 25 = .ok (.goto (-23), 3) := by decide +kernel
theorem dX6_endOfKind_28 : decode cX6_endOfKind 28 = .ok (.iload_n 3, 1) := by decide +kernel
theorem dX6_endOfKind_29 : decode cX6_endOfKind 29 = .ok (.ireturn, 1) := by decide +kernel
theorem dX6_isOfKind_0 : decode cX6_isOfKind 0 = .ok (.iload_n 1, 1) := by decide +kernel
theorem dX6_isOfKind_1 : decode cX6_isOfKind 1 = .ok (.tableswitch 81 0 8 #[51, 81, 63, 81, 81, 51, 51, 81, 69], 51) := by decide +kernel
theorem dX6_isOfKind_52 : decode cX6_isOfKind 52 = .ok (.aload_n 0, 1) := by decide +kernel
theorem dX6_isOfKind_53 : decode cX6_isOfKind 53 = .ok (.getfield 16, 3) := by decide +kernel
theorem dX6_isOfKind_56 : decode cX6_isOfKind 56 = .ok (.iload_n 2, 1) := by decide +kernel
theorem dX6_isOfKind_57 : decode cX6_isOfKind 57 = .ok (.invokevirtual 125, 3) := by decide +kernel
theorem dX6_isOfKind_60 : decode cX6_isOfKind 60 = .ok (.invokestatic 145, 3) := by decide +kernel
theorem dX6_isOfKind_63 : decode cX6_isOfKind 63 = .ok (.ireturn, 1) := by decide +kernel
theorem dX6_isOfKind_64 : decode cX6_isOfKind 64 = .ok (.aload_n 0, 1) := by decide +kernel
theorem dX6_isOfKind_65 : decode cX6_isOfKind 65 = .ok (.iload_n 2, 1) := by decide +kernel
theorem dX6_isOfKind_66 : decode cX6_isOfKind 66 = .ok (.invokevirtual 193, 3) := by decide +kernel
theorem dX6_isOfKind_69 : decode cX6_isOfKind 69 = .ok (.ireturn, 1) := by decide +kernel
theorem dX6_isOfKind_70 : decode cX6_isOfKind 70 = .ok (.aload_n 0, 1) := by decide +kernel
theorem dX6_isOfKind_71 : decode cX6_isOfKind 71 = .ok (.getfield 16, 3) := by decide +kernel
theorem dX6_isOfKind_74 : decode cX6_isOfKind 74 = .ok (.iload_n 2, 1) := by decide +kernel
theorem dX6_isOfKind_75 : decode cX6_isOfKind 75 = .ok (.invokevirtual 125, 3) := by decide +kernel
theorem dX6_isOfKind_78 : decode cX6_isOfKind 78 = .ok (.invokestatic 196, 3) := by decide +kernel
theorem dX6_isOfKind_81 : decode cX6_isOfKind 81 = .ok (.ireturn, 1) := by decide +kernel
theorem dX6_isOfKind_82 : decode cX6_isOfKind 82 = .ok (.aload_n 0, 1) := by decide +kernel
theorem dX6_isOfKind_83 : decode cX6_isOfKind 83 = .ok (.getfield 16, 3) := by decide +kernel
theorem dX6_isOfKind_86 : decode cX6_isOfKind 86 = .ok (.iload_n 2, 1) := by decide +kernel
theorem dX6_isOfKind_87 : decode cX6_isOfKind 87 = .ok (.invokevirtual 125, 3) := by decide +kernel
theorem dX6_isOfKind_90 : decode cX6_isOfKind 90 = .ok (.invokestatic 131, 3) := by decide +kernel
theorem dX6_isOfKind_93 : decode cX6_isOfKind 93 = .ok (.ireturn, 1) := by decide +kernel
theorem dX6_isOfWord_0 : decode cX6_isOfWord 0 = .ok (.aload_n 0, 1) := by decide +kernel
theorem dX6_isOfWord_1 : decode cX6_isOfWord 1 = .ok (.getfield 16, 3) := by decide +kernel
theorem dX6_isOfWord_4 : decode cX6_isOfWord 4 = .ok (.iload_n 1, 1) := by decide +kernel
theorem dX6_isOfWord_5 : decode cX6_isOfWord 5 = .ok (.invokevirtual 125, 3) := by decide +kernel
theorem dX6_isOfWord_8 : decode cX6_isOfWord 8 = .ok (.istore_n 2, 1) := by decide +kernel
theorem dX6_isOfWord_9 : decode cX6_isOfWord 9 = .ok (.iload_n 2, 1) := by decide +kernel
theorem dX6_isOfWord_10 : decode cX6_isOfWord 10 = .ok (.invokestatic 145, 3) := by decide +kernel
theorem dX6_isOfWord_13 : decode cX6_isOfWord 13 = .ok (.ifCond .ne 16, 3) := by decide +kernel
theorem dX6_isOfWord_16 : decode cX6_isOfWord 16 = .ok (.iload_n 2, 1) := by decide +kernel
theorem dX6_isOfWord_17 : decode cX6_isOfWord 17 = .ok (.invokestatic 148, 3) := by decide +kernel
theorem dX6_isOfWord_20 : decode cX6_isOfWord 20 = .ok (.ifCond .ne 9, 3) := by decide +kernel
theorem dX6_isOfWord_23 : decode cX6_isOfWord 23 = .ok (.iload_n 2, 1) := by decide +kernel
theorem dX6_isOfWord_24 : decode cX6_isOfWord 24 = .ok (.bipush 95, 2) := by decide +kernel
theorem dX6_isOfWord_26 : decode cX6_isOfWord 26 = .ok (.if_icmp .ne 5, 3) := by decide +kernel
theorem dX6_isOfWord_29 : decode cX6_isOfWord 29 = .ok (.iconst 1, 1) := by decide +kernel
theorem dX6_isOfWord_30 : decode cX6_isOfWord 30 = .ok (.ireturn, 1) := by decide +kernel
theorem dX6_isOfWord_31 : decode cX6_isOfWord 31 = .ok (.aload_n 0, 1) := by decide +kernel
theorem dX6_isOfWord_32 : decode cX6_isOfWord 32 = .ok (.getfield 16, 3) := by decide +kernel
theorem dX6_isOfWord_35 : decode cX6_isOfWord 35 = .ok (.iload_n 1, 1) := by decide +kernel
theorem dX6_isOfWord_36 : decode cX6_isOfWord 36 = .ok (.iconst 1, 1) := by decide +kernel
theorem dX6_isOfWord_37 : decode cX6_isOfWord 37 = .ok (.isub, 1) := by decide +kernel
theorem dX6_isOfWord_38 : decode cX6_isOfWord 38 = .ok (.invokevirtual 125, 3) := by decide +kernel
theorem dX6_isOfWord_41 : decode cX6_isOfWord 41 = .ok (.istore_n 3, 1) := by decide +kernel
theorem dX6_isOfWord_42 : decode cX6_isOfWord 42 = .ok (.aload_n 0, 1) := by decide +kernel
theorem dX6_isOfWord_43 : decode cX6_isOfWord 43 = .ok (.getfield 16, 3) := by decide +kernel
theorem dX6_isOfWord_46 : decode cX6_isOfWord 46 = .ok (.iload_n 1, 1) := by decide +kernel
theorem dX6_isOfWord_47 : decode cX6_isOfWord 47 = .ok (.iconst 1, 1) := by decide +kernel
theorem dX6_isOfWord_48 : decode cX6_isOfWord 48 = .ok (.iadd, 1) := by decide +kernel
theorem dX6_isOfWord_49 : decode cX6_isOfWord 49 = .ok (.invokevirtual 125, 3) := by decide +kernel
theorem dX6_isOfWord_52 : decode cX6_isOfWord 52 = .ok (.istore 4, 2) := by decide +kernel
theorem dX6_isOfWord_54 : decode cX6_isOfWord 54 = .ok (.iload_n 3, 1) := by decide +kernel
theorem dX6_isOfWord_55 : decode cX6_isOfWord 55 = .ok (.invokestatic 145, 3) := by decide +kernel
theorem dX6_isOfWord_58 : decode cX6_isOfWord 58 = .ok (.ifCond .eq 29, 3) := by decide +kernel
theorem dX6_isOfWord_61 : decode cX6_isOfWord 61 = .ok (.iload 4, 2) := by decide +kernel
theorem dX6_isOfWord_63 : decode cX6_isOfWord 63 = .ok (.invokestatic 145, 3) := by decide +kernel
theorem dX6_isOfWord_66 : decode cX6_isOfWord 66 = .ok (.ifCond .eq 21, 3) := by decide +kernel
theorem dX6_isOfWord_69 : decode cX6_isOfWord 69 = .ok (.iload_n 2, 1) := by decide +kernel
theorem dX6_isOfWord_70 : decode cX6_isOfWord 70 = .ok (.bipush 39, 2) := by decide +kernel
theorem dX6_isOfWord_72 : decode cX6_isOfWord 72 = .ok (.if_icmp .eq 9, 3) := by decide +kernel
theorem dX6_isOfWord_75 : decode cX6_isOfWord 75 = .ok (.iload_n 2, 1) := by decide +kernel
theorem dX6_isOfWord_76 : decode cX6_isOfWord 76 = .ok (.bipush 46, 2) := by decide +kernel
theorem dX6_isOfWord_78 : decode cX6_isOfWord 78 = .ok (.if_icmp .ne 7, 3) := by decide +kernel
theorem dX6_isOfWord_81 : decode cX6_isOfWord 81 = .ok (.iconst 1, 1) := by decide +kernel
theorem dX6_isOfWord_82 : decode cX6_isOfWord 82 = .ok (.goto 4, 3) := by decide +kernel
theorem dX6_isOfWord_85 : decode cX6_isOfWord 85 = .ok (.iconst 0, 1) := by decide +kernel
theorem dX6_isOfWord_86 : decode cX6_isOfWord 86 = .ok (.ireturn, 1) := by decide +kernel
theorem dX6_isOfWord_87 : decode cX6_isOfWord 87 = .ok (.iload_n 3, 1) := by decide +kernel
theorem dX6_isOfWord_88 : decode cX6_isOfWord 88 = .ok (.invokestatic 148, 3) := by decide +kernel
theorem dX6_isOfWord_91 : decode cX6_isOfWord 91 = .ok (.ifCond .eq 29, 3) := by decide +kernel
theorem dX6_isOfWord_94 : decode cX6_isOfWord 94 = .ok (.iload 4, 2) := by decide +kernel
theorem dX6_isOfWord_96 : decode cX6_isOfWord 96 = .ok (.invokestatic 148, 3) := by decide +kernel
theorem dX6_isOfWord_99 : decode cX6_isOfWord 99 = .ok (.ifCond .eq 21, 3) := by decide +kernel
theorem dX6_isOfWord_102 : decode cX6_isOfWord 102 = .ok (.iload_n 2, 1) := by decide +kernel
theorem dX6_isOfWord_103 : decode cX6_isOfWord 103 = .ok (.bipush 44, 2) := by decide +kernel
theorem dX6_isOfWord_105 : decode cX6_isOfWord 105 = .ok (.if_icmp .eq 9, 3) := by decide +kernel
theorem dX6_isOfWord_108 : decode cX6_isOfWord 108 = .ok (.iload_n 2, 1) := by decide +kernel
theorem dX6_isOfWord_109 : decode cX6_isOfWord 109 = .ok (.bipush 46, 2) := by decide +kernel
theorem dX6_isOfWord_111 : decode cX6_isOfWord 111 = .ok (.if_icmp .ne 7, 3) := by decide +kernel
theorem dX6_isOfWord_114 : decode cX6_isOfWord 114 = .ok (.iconst 1, 1) := by decide +kernel
theorem dX6_isOfWord_115 : decode cX6_isOfWord 115 = .ok (.goto 4, 3) := by decide +kernel
theorem dX6_isOfWord_118 : decode cX6_isOfWord 118 = .ok (.iconst 0, 1) := by decide +kernel
theorem dX6_isOfWord_119 : decode cX6_isOfWord 119 = .ok (.ireturn, 1) := by decide +kernel
theorem dX6_isOfWord_120 : decode cX6_isOfWord 120 = .ok (.iconst 0, 1) := by decide +kernel
theorem dX6_isOfWord_121 : decode cX6_isOfWord 121 = .ok (.ireturn, 1) := by decide +kernel
theorem dX6_isLinkAt_0 : decode cX6_isLinkAt 0 = .ok (.iload_n 1, 1) := by decide +kernel
theorem dX6_isLinkAt_1 : decode cX6_isLinkAt 1 = .ok (.ifCond .le 21, 3) := by decide +kernel
theorem dX6_isLinkAt_4 : decode cX6_isLinkAt 4 = .ok (.aload_n 0, 1) := by decide +kernel
theorem dX6_isLinkAt_5 : decode cX6_isLinkAt 5 = .ok (.getfield 16, 3) := by decide +kernel
theorem dX6_isLinkAt_8 : decode cX6_isLinkAt 8 = .ok (.iload_n 1, 1) := by decide +kernel
theorem dX6_isLinkAt_9 : decode cX6_isLinkAt 9 = .ok (.iconst 1, 1) := by decide +kernel
theorem dX6_isLinkAt_10 : decode cX6_isLinkAt 10 = .ok (.isub, 1) := by decide +kernel
theorem dX6_isLinkAt_11 : decode cX6_isLinkAt 11 = .ok (.invokevirtual 125, 3) := by decide +kernel
theorem dX6_isLinkAt_14 : decode cX6_isLinkAt 14 = .ok (.invokestatic 128, 3) := by decide +kernel
theorem dX6_isLinkAt_17 : decode cX6_isLinkAt 17 = .ok (.ifCond .ne 5, 3) := by decide +kernel
theorem dX6_isLinkAt_20 : decode cX6_isLinkAt 20 = .ok (.iconst 0, 1) := by decide +kernel
theorem dX6_isLinkAt_21 : decode cX6_isLinkAt 21 = .ok (.ireturn, 1) := by decide +kernel
theorem dX6_isLinkAt_22 : decode cX6_isLinkAt 22 = .ok (.aload_n 0, 1) := by decide +kernel
theorem dX6_isLinkAt_23 : decode cX6_isLinkAt 23 = .ok (.iconst 1, 1) := by decide +kernel
theorem dX6_isLinkAt_24 : decode cX6_isLinkAt 24 = .ok (.iload_n 1, 1) := by decide +kernel
theorem dX6_isLinkAt_25 : decode cX6_isLinkAt 25 = .ok (.invokevirtual 134, 3) := by decide +kernel
theorem dX6_isLinkAt_28 : decode cX6_isLinkAt 28 = .ok (.istore_n 2, 1) := by decide +kernel
theorem dX6_isLinkAt_29 : decode cX6_isLinkAt 29 = .ok (.iload_n 2, 1) := by decide +kernel
theorem dX6_isLinkAt_30 : decode cX6_isLinkAt 30 = .ok (.iload_n 1, 1) := by decide +kernel
theorem dX6_isLinkAt_31 : decode cX6_isLinkAt 31 = .ok (.isub, 1) := by decide +kernel
theorem dX6_isLinkAt_32 : decode cX6_isLinkAt 32 = .ok (.iconst 4, 1) := by decide +kernel
theorem dX6_isLinkAt_33 : decode cX6_isLinkAt 33 = .ok (.if_icmp .le 13, 3) := by decide +kernel
theorem dX6_isLinkAt_36 : decode cX6_isLinkAt 36 = .ok (.aload_n 0, 1) := by decide +kernel
theorem dX6_isLinkAt_37 : decode cX6_isLinkAt 37 = .ok (.iload_n 1, 1) := by decide +kernel
theorem dX6_isLinkAt_38 : decode cX6_isLinkAt 38 = .ok (.invokevirtual 199, 3) := by decide +kernel
theorem dX6_isLinkAt_41 : decode cX6_isLinkAt 41 = .ok (.ifCond .eq 5, 3) := by decide +kernel
theorem dX6_isLinkAt_44 : decode cX6_isLinkAt 44 = .ok (.iconst 1, 1) := by decide +kernel
theorem dX6_isLinkAt_45 : decode cX6_isLinkAt 45 = .ok (.ireturn, 1) := by decide +kernel
theorem dX6_isLinkAt_46 : decode cX6_isLinkAt 46 = .ok (.iload_n 1, 1) := by decide +kernel
theorem dX6_isLinkAt_47 : decode cX6_isLinkAt 47 = .ok (.iconst 1, 1) := by decide +kernel
theorem dX6_isLinkAt_48 : decode cX6_isLinkAt 48 = .ok (.iadd, 1) := by decide +kernel
theorem dX6_isLinkAt_49 : decode cX6_isLinkAt 49 = .ok (.istore_n 3, 1) := by decide +kernel
theorem dX6_isLinkAt_50 : decode cX6_isLinkAt 50 = .ok (.iload_n 3, 1) := by decide +kernel
theorem dX6_isLinkAt_51 : decode cX6_isLinkAt 51 = .ok (.iload_n 2, 1) := by decide +kernel
theorem dX6_isLinkAt_52 : decode cX6_isLinkAt 52 = .ok (.iconst 1, 1) := by decide +kernel
theorem dX6_isLinkAt_53 : decode cX6_isLinkAt 53 = .ok (.isub, 1) := by decide +kernel
theorem dX6_isLinkAt_54 : decode cX6_isLinkAt 54 = .ok (.if_icmp .ge 24, 3) := by decide +kernel
theorem dX6_isLinkAt_57 : decode cX6_isLinkAt 57 = .ok (.aload_n 0, 1) := by decide +kernel
theorem dX6_isLinkAt_58 : decode cX6_isLinkAt 58 = .ok (.getfield 16, 3) := by decide +kernel
theorem dX6_isLinkAt_61 : decode cX6_isLinkAt 61 = .ok (.iload_n 3, 1) := by decide +kernel
theorem dX6_isLinkAt_62 : decode cX6_isLinkAt 62 = .ok (.invokevirtual 125, 3) := by decide +kernel
theorem dX6_isLinkAt_65 : decode cX6_isLinkAt 65 = .ok (.bipush 64, 2) := by decide +kernel
theorem dX6_isLinkAt_67 : decode cX6_isLinkAt 67 = .ok (.if_icmp .ne 5, 3) := by decide +kernel
theorem dX6_isLinkAt_70 : decode cX6_isLinkAt 70 = .ok (.iconst 1, 1) := by decide +kernel
theorem dX6_isLinkAt_71 : decode cX6_isLinkAt 71 = .ok (.ireturn, 1) := by decide +kernel
theorem dX6_isLinkAt_72 : decode cX6_isLinkAt 72 = .ok (.iinc 3 1, 3) := by decide +kernel
theorem dX6_isLinkAt_75 : decode cX6_isLinkAt 75 = .ok (.goto (-25), 3) := by decide +kernel
theorem dX6_isLinkAt_78 : decode cX6_isLinkAt 78 = .ok (.iconst 0, 1) := by decide +kernel
theorem dX6_isLinkAt_79 : decode cX6_isLinkAt 79 = .ok (.ireturn, 1) := by decide +kernel
theorem dX6_isWebAt_0 : decode cX6_isWebAt 0 = .ok (.aload_n 0, 1) := by decide +kernel
theorem dX6_isWebAt_1 : decode cX6_isWebAt 1 = .ok (.getfield 16, 3) := by decide +kernel
theorem dX6_isWebAt_4 : decode cX6_isWebAt 4 = .ok (.iload_n 1, 1) := by decide +kernel
theorem dX6_isWebAt_5 : decode cX6_isWebAt 5 = .ok (.invokevirtual 125, 3) := by decide +kernel
theorem dX6_isWebAt_8 : decode cX6_isWebAt 8 = .ok (.bipush 119, 2) := by decide +kernel
theorem dX6_isWebAt_10 : decode cX6_isWebAt 10 = .ok (.if_icmp .ne 52, 3) := by decide +kernel
theorem dX6_isWebAt_13 : decode cX6_isWebAt 13 = .ok (.aload_n 0, 1) := by decide +kernel
theorem dX6_isWebAt_14 : decode cX6_isWebAt 14 = .ok (.getfield 16, 3) := by decide +kernel
theorem dX6_isWebAt_17 : decode cX6_isWebAt 17 = .ok (.iload_n 1, 1) := by decide +kernel
theorem dX6_isWebAt_18 : decode cX6_isWebAt 18 = .ok (.iconst 1, 1) := by decide +kernel
theorem dX6_isWebAt_19 : decode cX6_isWebAt 19 = .ok (.iadd, 1) := by decide +kernel
theorem dX6_isWebAt_20 : decode cX6_isWebAt 20 = .ok (.invokevirtual 125, 3) := by decide +kernel
theorem dX6_isWebAt_23 : decode cX6_isWebAt 23 = .ok (.bipush 119, 2) := by decide +kernel
theorem dX6_isWebAt_25 : decode cX6_isWebAt 25 = .ok (.if_icmp .ne 37, 3) := by decide +kernel
theorem dX6_isWebAt_28 : decode cX6_isWebAt 28 = .ok (.aload_n 0, 1) := by decide +kernel
theorem dX6_isWebAt_29 : decode cX6_isWebAt 29 = .ok (.getfield 16, 3) := by decide +kernel
theorem dX6_isWebAt_32 : decode cX6_isWebAt 32 = .ok (.iload_n 1, 1) := by decide +kernel
theorem dX6_isWebAt_33 : decode cX6_isWebAt 33 = .ok (.iconst 2, 1) := by decide +kernel
theorem dX6_isWebAt_34 : decode cX6_isWebAt 34 = .ok (.iadd, 1) := by decide +kernel
theorem dX6_isWebAt_35 : decode cX6_isWebAt 35 = .ok (.invokevirtual 125, 3) := by decide +kernel
theorem dX6_isWebAt_38 : decode cX6_isWebAt 38 = .ok (.bipush 119, 2) := by decide +kernel
theorem dX6_isWebAt_40 : decode cX6_isWebAt 40 = .ok (.if_icmp .ne 22, 3) := by decide +kernel
theorem dX6_isWebAt_43 : decode cX6_isWebAt 43 = .ok (.aload_n 0, 1) := by decide +kernel
theorem dX6_isWebAt_44 : decode cX6_isWebAt 44 = .ok (.getfield 16, 3) := by decide +kernel
theorem dX6_isWebAt_47 : decode cX6_isWebAt 47 = .ok (.iload_n 1, 1) := by decide +kernel
theorem dX6_isWebAt_48 : decode cX6_isWebAt 48 = .ok (.iconst 3, 1) := by decide +kernel
theorem dX6_isWebAt_49 : decode cX6_isWebAt 49 = .ok (.iadd, 1) := by decide +kernel
theorem dX6_isWebAt_50 : decode cX6_isWebAt 50 = .ok (.invokevirtual 125, 3) := by decide +kernel
theorem dX6_isWebAt_53 : decode cX6_isWebAt 53 = .ok (.bipush 46, 2) := by decide +kernel
theorem dX6_isWebAt_55 : decode cX6_isWebAt 55 = .ok (.if_icmp .ne 7, 3) := by decide +kernel
theorem dX6_isWebAt_58 : decode cX6_isWebAt 58 = .ok (.iconst 1, 1) := by decide +kernel
theorem dX6_isWebAt_59 : decode cX6_isWebAt 59 = .ok (.goto 4, 3) := by decide +kernel
theorem dX6_isWebAt_62 : decode cX6_isWebAt 62 = .ok (.iconst 0, 1) := by decide +kernel
theorem dX6_isWebAt_63 : decode cX6_isWebAt 63 = .ok (.ireturn, 1) := by decide +kernel
theorem dX7_init_0 : decode cX7_init 0 = .ok (.aload_n 0, 1) := by decide +kernel
theorem dX7_init_1 : decode cX7_init 1 = .ok (.invokespecial 1, 3) := by decide +kernel
theorem dX7_init_4 : decode cX7_init 4 = .ok (.aload_n 0, 1) := by decide +kernel
theorem dX7_init_5 : decode cX7_init 5 = .ok (.sipush 300, 3) := by decide +kernel
theorem dX7_init_8 : decode cX7_init 8 = .ok (.newarray .int, 2) := by decide +kernel
theorem dX7_init_10 : decode cX7_init 10 = .ok (.putfield 7, 3) := by decide +kernel
theorem dX7_init_13 : decode cX7_init 13 = .ok (.aload_n 0, 1) := by decide +kernel
theorem dX7_init_14 : decode cX7_init 14 = .ok (.sipush 300, 3) := by decide +kernel
theorem dX7_init_17 : decode cX7_init 17 = .ok (.newarray .int, 2) := by decide +kernel
theorem dX7_init_19 : decode cX7_init 19 = .ok (.putfield 13, 3) := by decide +kernel
theorem dX7_init_22 : decode cX7_init 22 = .ok (.aload_n 0, 1) := by decide +kernel
theorem dX7_init_23 : decode cX7_init 23 = .ok (.sipush 480, 3) := by decide +kernel
theorem dX7_init_26 : decode cX7_init 26 = .ok (.newarray .int, 2) := by decide +kernel
theorem dX7_init_28 : decode cX7_init 28 = .ok (.putfield 16, 3) := by decide +kernel
theorem dX7_init_31 : decode cX7_init 31 = .ok (.aload_n 0, 1) := by decide +kernel
theorem dX7_init_32 : decode cX7_init 32 = .ok (.bipush 40, 2) := by decide +kernel
theorem dX7_init_34 : decode cX7_init 34 = .ok (.newarray .int, 2) := by decide +kernel
theorem dX7_init_36 : decode cX7_init 36 = .ok (.putfield 19, 3) := by decide +kernel
theorem dX7_init_39 : decode cX7_init 39 = .ok (.aload_n 0, 1) := by decide +kernel
theorem dX7_init_40 : decode cX7_init 40 = .ok (.bipush 40, 2) := by decide +kernel
theorem dX7_init_42 : decode cX7_init 42 = .ok (.newarray .int, 2) := by decide +kernel
theorem dX7_init_44 : decode cX7_init 44 = .ok (.putfield 22, 3) := by decide +kernel
theorem dX7_init_47 : decode cX7_init 47 = .ok (.aload_n 0, 1) := by decide +kernel
theorem dX7_init_48 : decode cX7_init 48 = .ok (.bipush 100, 2) := by decide +kernel
theorem dX7_init_50 : decode cX7_init 50 = .ok (.putfield 25, 3) := by decide +kernel
theorem dX7_init_53 : decode cX7_init 53 = .ok (.aload_n 0, 1) := by decide +kernel
theorem dX7_init_54 : decode cX7_init 54 = .ok (.sipush 300, 3) := by decide +kernel
theorem dX7_init_57 : decode cX7_init 57 = .ok (.putfield 29, 3) := by decide +kernel
theorem dX7_init_60 : decode cX7_init 60 = .ok (.aload_n 0, 1) := by decide +kernel
theorem dX7_init_61 : decode cX7_init 61 = .ok (.sipush 400, 3) := by decide +kernel
theorem dX7_init_64 : decode cX7_init 64 = .ok (.newarray .int, 2) := by decide +kernel
theorem dX7_init_66 : decode cX7_init 66 = .ok (.putfield 32, 3) := by decide +kernel
theorem dX7_init_69 : decode cX7_init 69 = .ok (.aload_n 0, 1) := by decide +kernel
theorem dX7_init_70 : decode cX7_init 70 = .ok (.sipush 400, 3) := by decide +kernel
theorem dX7_init_73 : decode cX7_init 73 = .ok (.newarray .int, 2) := by decide +kernel
theorem dX7_init_75 : decode cX7_init 75 = .ok (.putfield 35, 3) := by decide +kernel
theorem dX7_init_78 : decode cX7_init 78 = .ok (.aload_n 0, 1) := by decide +kernel
theorem dX7_init_79 : decode cX7_init 79 = .ok (.sipush 400, 3) := by decide +kernel
theorem dX7_init_82 : decode cX7_init 82 = .ok (.newarray .int, 2) := by decide +kernel
theorem dX7_init_84 : decode cX7_init 84 = .ok (.putfield 38, 3) := by decide +kernel
theorem dX7_init_87 : decode cX7_init 87 = .ok (.aload_n 0, 1) := by decide +kernel
theorem dX7_init_88 : decode cX7_init 88 = .ok (.sipush 240, 3) := by decide +kernel
theorem dX7_init_91 : decode cX7_init 91 = .ok (.newarray .long, 2) := by decide +kernel
theorem dX7_init_93 : decode cX7_init 93 = .ok (.putfield 41, 3) := by decide +kernel
theorem dX7_init_96 : decode cX7_init 96 = .ok (.aload_n 0, 1) := by decide +kernel
theorem dX7_init_97 : decode cX7_init 97 = .ok (.bipush 60, 2) := by decide +kernel
theorem dX7_init_99 : decode cX7_init 99 = .ok (.newarray .long, 2) := by decide +kernel
theorem dX7_init_101 : decode cX7_init 101 = .ok (.putfield 45, 3) := by decide +kernel
theorem dX7_init_104 : decode cX7_init 104 = .ok (.aload_n 0, 1) := by decide +kernel
theorem dX7_init_105 : decode cX7_init 105 = .ok (.sipush 240, 3) := by decide +kernel
theorem dX7_init_108 : decode cX7_init 108 = .ok (.newarray .long, 2) := by decide +kernel
theorem dX7_init_110 : decode cX7_init 110 = .ok (.putfield 48, 3) := by decide +kernel
theorem dX7_init_113 : decode cX7_init 113 = .ok (.aload_n 0, 1) := by decide +kernel
theorem dX7_init_114 : decode cX7_init 114 = .ok (.bipush 60, 2) := by decide +kernel
theorem dX7_init_116 : decode cX7_init 116 = .ok (.newarray .long, 2) := by decide +kernel
theorem dX7_init_118 : decode cX7_init 118 = .ok (.putfield 51, 3) := by decide +kernel
theorem dX7_init_121 : decode cX7_init 121 = .ok (.aload_n 0, 1) := by decide +kernel
theorem dX7_init_122 : decode cX7_init 122 = .ok (.bipush 9, 2) := by decide +kernel
theorem dX7_init_124 : decode cX7_init 124 = .ok (.newarray .boolean, 2) := by decide +kernel
theorem dX7_init_126 : decode cX7_init 126 = .ok (.putfield 54, 3) := by decide +kernel
theorem dX7_init_129 : decode cX7_init 129 = .ok (.aload_n 0, 1) := by decide +kernel
theorem dX7_init_130 : decode cX7_init 130 = .ok (.bipush 9, 2) := by decide +kernel
theorem dX7_init_132 : decode cX7_init 132 = .ok (.newarray .boolean, 2) := by decide +kernel
theorem dX7_init_134 : decode cX7_init 134 = .ok (.putfield 58, 3) := by decide +kernel
theorem dX7_init_137 : decode cX7_init 137 = .ok (.aload_n 0, 1) := by decide +kernel
theorem dX7_init_138 : decode cX7_init 138 = .ok (.bipush 9, 2) := by decide +kernel
theorem dX7_init_140 : decode cX7_init 140 = .ok (.newarray .long, 2) := by decide +kernel
theorem dX7_init_142 : decode cX7_init 142 = .ok (.putfield 61, 3) := by decide +kernel
theorem dX7_init_145 : decode cX7_init 145 = .ok (.aload_n 0, 1) := by decide +kernel
theorem dX7_init_146 : decode cX7_init 146 = .ok (.bipush 9, 2) := by decide +kernel
theorem dX7_init_148 : decode cX7_init 148 = .ok (.newarray .long, 2) := by decide +kernel
theorem dX7_init_150 : decode cX7_init 150 = .ok (.putfield 64, 3) := by decide +kernel
theorem dX7_init_153 : decode cX7_init 153 = .ok (.aload_n 0, 1) := by decide +kernel
theorem dX7_init_154 : decode cX7_init 154 = .ok (.bipush 9, 2) := by decide +kernel
theorem dX7_init_156 : decode cX7_init 156 = .ok (.newarray .boolean, 2) := by decide +kernel
theorem dX7_init_158 : decode cX7_init 158 = .ok (.putfield 67, 3) := by decide +kernel
theorem dX7_init_161 : decode cX7_init 161 = .ok (.aload_n 0, 1) := by decide +kernel
theorem dX7_init_162 : decode cX7_init 162 = .ok (.bipush 9, 2) := by decide +kernel
theorem dX7_init_164 : decode cX7_init 164 = .ok (.newarray .long, 2) := by decide +kernel
theorem dX7_init_166 : decode cX7_init 166 = .ok (.putfield 70, 3) := by decide +kernel
theorem dX7_init_169 : decode cX7_init 169 = .ok (.aload_n 0, 1) := by decide +kernel
theorem dX7_init_170 : decode cX7_init 170 = .ok (.bipush 9, 2) := by decide +kernel
theorem dX7_init_172 : decode cX7_init 172 = .ok (.newarray .long, 2) := by decide +kernel
theorem dX7_init_174 : decode cX7_init 174 = .ok (.putfield 73, 3) := by decide +kernel
theorem dX7_init_177 : decode cX7_init 177 = .ok (.aload_n 0, 1) := by decide +kernel
theorem dX7_init_178 : decode cX7_init 178 = .ok (.sipush 301, 3) := by decide +kernel
theorem dX7_init_181 : decode cX7_init 181 = .ok (.newarray .int, 2) := by decide +kernel
theorem dX7_init_183 : decode cX7_init 183 = .ok (.putfield 76, 3) := by decide +kernel
theorem dX7_init_186 : decode cX7_init 186 = .ok (.aload_n 0, 1) := by decide +kernel
theorem dX7_init_187 : decode cX7_init 187 = .ok (.sipush 301, 3) := by decide +kernel
theorem dX7_init_190 : decode cX7_init 190 = .ok (.newarray .int, 2) := by decide +kernel
theorem dX7_init_192 : decode cX7_init 192 = .ok (.putfield 79, 3) := by decide +kernel
theorem dX7_init_195 : decode cX7_init 195 = .ok (.aload_n 0, 1) := by decide +kernel
theorem dX7_init_196 : decode cX7_init 196 = .ok (.sipush 301, 3) := by decide +kernel
theorem dX7_init_199 : decode cX7_init 199 = .ok (.newarray .int, 2) := by decide +kernel
theorem dX7_init_201 : decode cX7_init 201 = .ok (.putfield 82, 3) := by decide +kernel
theorem dX7_init_204 : decode cX7_init 204 = .ok (.return_, 1) := by decide +kernel
theorem dX7_isIn_0 : decode cX7_isIn 0 = .ok (.iload_n 0, 1) := by decide +kernel
theorem dX7_isIn_1 : decode cX7_isIn 1 = .ok (.iload_n 1, 1) := by decide +kernel
theorem dX7_isIn_2 : decode cX7_isIn 2 = .ok (.if_icmp .lt 12, 3) := by decide +kernel
theorem dX7_isIn_5 : decode cX7_isIn 5 = .ok (.iload_n 0, 1) := by decide +kernel
theorem dX7_isIn_6 : decode cX7_isIn 6 = .ok (.iload_n 2, 1) := by decide +kernel
theorem dX7_isIn_7 : decode cX7_isIn 7 = .ok (.if_icmp .gt 7, 3) := by decide +kernel
theorem dX7_isIn_10 : decode cX7_isIn 10 = .ok (.iconst 1, 1) := by decide +kernel
theorem dX7_isIn_11 : decode cX7_isIn 11 = .ok (.goto 4, 3) := by decide +kernel
theorem dX7_isIn_14 : decode cX7_isIn 14 = .ok (.iconst 0, 1) := by decide +kernel
theorem dX7_isIn_15 : decode cX7_isIn 15 = .ok (.ireturn, 1) := by decide +kernel
theorem dX7_isLetter_0 : decode cX7_isLetter 0 = .ok (.iload_n 0, 1) := by decide +kernel
theorem dX7_isLetter_1 : decode cX7_isLetter 1 = .ok (.bipush 97, 2) := by decide +kernel
theorem dX7_isLetter_3 : decode cX7_isLetter 3 = .ok (.bipush 122, 2) := by decide +kernel
theorem dX7_isLetter_5 : decode cX7_isLetter 5 = .ok (.invokestatic 85, 3) := by decide +kernel
theorem dX7_isLetter_8 : decode cX7_isLetter 8 = .ok (.ifCond .ne 14, 3) := by decide +kernel
theorem dX7_isLetter_11 : decode cX7_isLetter 11 = .ok (.iload_n 0, 1) := by decide +kernel
theorem dX7_isLetter_12 : decode cX7_isLetter 12 = .ok (.bipush 65, 2) := by decide +kernel
theorem dX7_isLetter_14 : decode cX7_isLetter 14 = .ok (.bipush 90, 2) := by decide +kernel
theorem dX7_isLetter_16 : decode cX7_isLetter 16 = .ok (.invokestatic 85, 3) := by decide +kernel
theorem dX7_isLetter_19 : decode cX7_isLetter 19 = .ok (.ifCond .eq 7, 3) := by decide +kernel
theorem dX7_isLetter_22 : decode cX7_isLetter 22 = .ok (.iconst 1, 1) := by decide +kernel
theorem dX7_isLetter_23 : decode cX7_isLetter 23 = .ok (.goto 4, 3) := by decide +kernel
theorem dX7_isLetter_26 : decode cX7_isLetter 26 = .ok (.iconst 0, 1) := by decide +kernel
theorem dX7_isLetter_27 : decode cX7_isLetter 27 = .ok (.ireturn, 1) := by decide +kernel
theorem dX7_isFigure_0 : decode cX7_isFigure 0 = .ok (.iload_n 0, 1) := by decide +kernel
theorem dX7_isFigure_1 : decode cX7_isFigure 1 = .ok (.bipush 48, 2) := by decide +kernel
theorem dX7_isFigure_3 : decode cX7_isFigure 3 = .ok (.bipush 57, 2) := by decide +kernel
theorem dX7_isFigure_5 : decode cX7_isFigure 5 = .ok (.invokestatic 85, 3) := by decide +kernel
theorem dX7_isFigure_8 : decode cX7_isFigure 8 = .ok (.ireturn, 1) := by decide +kernel
theorem dX7_isBlank_0 : decode cX7_isBlank 0 = .ok (.iload_n 0, 1) := by decide +kernel
theorem dX7_isBlank_1 : decode cX7_isBlank 1 = .ok (.bipush 32, 2) := by decide +kernel
theorem dX7_isBlank_3 : decode cX7_isBlank 3 = .ok (.if_icmp .eq 15, 3) := by decide +kernel
theorem dX7_isBlank_6 : decode cX7_isBlank 6 = .ok (.iload_n 0, 1) := by decide +kernel
theorem dX7_isBlank_7 : decode cX7_isBlank 7 = .ok (.bipush 9, 2) := by decide +kernel
theorem dX7_isBlank_9 : decode cX7_isBlank 9 = .ok (.if_icmp .eq 9, 3) := by decide +kernel
theorem dX7_isBlank_12 : decode cX7_isBlank 12 = .ok (.iload_n 0, 1) := by decide +kernel
theorem dX7_isBlank_13 : decode cX7_isBlank 13 = .ok (.bipush 10, 2) := by decide +kernel
theorem dX7_isBlank_15 : decode cX7_isBlank 15 = .ok (.if_icmp .ne 7, 3) := by decide +kernel
theorem dX7_isBlank_18 : decode cX7_isBlank 18 = .ok (.iconst 1, 1) := by decide +kernel
theorem dX7_isBlank_19 : decode cX7_isBlank 19 = .ok (.goto 4, 3) := by decide +kernel
theorem dX7_isBlank_22 : decode cX7_isBlank 22 = .ok (.iconst 0, 1) := by decide +kernel
theorem dX7_isBlank_23 : decode cX7_isBlank 23 = .ok (.ireturn, 1) := by decide +kernel
theorem dX7_isOther_0 : decode cX7_isOther 0 = .ok (.iload_n 0, 1) := by decide +kernel
theorem dX7_isOther_1 : decode cX7_isOther 1 = .ok (.invokestatic 89, 3) := by decide +kernel
theorem dX7_isOther_4 : decode cX7_isOther 4 = .ok (.ifCond .ne 21, 3) := by decide +kernel
theorem dX7_isOther_7 : decode cX7_isOther 7 = .ok (.iload_n 0, 1) := by decide +kernel
theorem dX7_isOther_8 : decode cX7_isOther 8 = .ok (.invokestatic 93, 3) := by decide +kernel
theorem dX7_isOther_11 : decode cX7_isOther 11 = .ok (.ifCond .ne 14, 3) := by decide +kernel
theorem dX7_isOther_14 : decode cX7_isOther 14 = .ok (.iload_n 0, 1) := by decide +kernel
theorem dX7_isOther_15 : decode cX7_isOther 15 = .ok (.invokestatic 96, 3) := by decide +kernel
theorem dX7_isOther_18 : decode cX7_isOther 18 = .ok (.ifCond .ne 7, 3) := by decide +kernel
theorem dX7_isOther_21 : decode cX7_isOther 21 = .ok (.iconst 1, 1) := by decide +kernel
theorem dX7_isOther_22 : decode cX7_isOther 22 = .ok (.goto 4, 3) := by decide +kernel
theorem dX7_isOther_25 : decode cX7_isOther 25 = .ok (.iconst 0, 1) := by decide +kernel
theorem dX7_isOther_26 : decode cX7_isOther 26 = .ok (.ireturn, 1) := by decide +kernel
theorem dX7_feed_0 : decode cX7_feed 0 = .ok (.iload_n 1, 1) := by decide +kernel
theorem dX7_feed_1 : decode cX7_feed 1 = .ok (.iconst 1, 1) := by decide +kernel
theorem dX7_feed_2 : decode cX7_feed 2 = .ok (.bipush 8, 2) := by decide +kernel
theorem dX7_feed_4 : decode cX7_feed 4 = .ok (.invokestatic 85, 3) := by decide +kernel
theorem dX7_feed_7 : decode cX7_feed 7 = .ok (.ifCond .ne 5, 3) := by decide +kernel
theorem dX7_feed_10 : decode cX7_feed 10 = .ok (.iconst (-1), 1) := by decide +kernel
theorem dX7_feed_11 : decode cX7_feed 11 = .ok (.ireturn, 1) := by decide +kernel
theorem dX7_feed_12 : decode cX7_feed 12 = .ok (.aload_n 0, 1) := by decide +kernel
theorem dX7_feed_13 : decode cX7_feed 13 = .ok (.getfield 99, 3) := by decide +kernel
theorem dX7_feed_16 : decode cX7_feed 16 = .ok (.iload_n 1, 1) := by decide +kernel
theorem dX7_feed_17 : decode cX7_feed 17 = .ok (.iadd, 1) := by decide +kernel
theorem dX7_feed_18 : decode cX7_feed 18 = .ok (.sipush 300, 3) := by decide +kernel
theorem dX7_feed_21 : decode cX7_feed 21 = .ok (.if_icmp .le 6, 3) := by decide +kernel
theorem dX7_feed_24 : decode cX7_feed 24 = .ok (.bipush (-3), 2) := by decide +kernel
theorem dX7_feed_26 : decode cX7_feed 26 = .ok (.ireturn, 1) := by decide +kernel
theorem dX7_feed_27 : decode cX7_feed 27 = .ok (.iconst 0, 1) := by decide +kernel
theorem dX7_feed_28 : decode cX7_feed 28 = .ok (.istore 4, 2) := by decide +kernel
theorem dX7_feed_30 : decode cX7_feed 30 = .ok (.iload 4, 2) := by decide +kernel
theorem dX7_feed_32 : decode cX7_feed 32 = .ok (.iload_n 1, 1) := by decide +kernel
theorem dX7_feed_33 : decode cX7_feed 33 = .ok (.if_icmp .ge 40, 3) := by decide +kernel
theorem dX7_feed_36 : decode cX7_feed 36 = .ok (.aload_n 0, 1) := by decide +kernel
theorem dX7_feed_37 : decode cX7_feed 37 = .ok (.getfield 7, 3) := by decide +kernel
theorem dX7_feed_40 : decode cX7_feed 40 = .ok (.aload_n 0, 1) := by decide +kernel
theorem dX7_feed_41 : decode cX7_feed 41 = .ok (.getfield 99, 3) := by decide +kernel
theorem dX7_feed_44 : decode cX7_feed 44 = .ok (.lload_n 2, 1) := by decide +kernel
theorem dX7_feed_45 : decode cX7_feed 45 = .ok (.bipush 8, 2) := by decide +kernel
theorem dX7_feed_47 : decode cX7_feed 47 = .ok (.iload 4, 2) := by decide +kernel
theorem dX7_feed_49 : decode cX7_feed 49 = .ok (.imul, 1) := by decide +kernel
theorem dX7_feed_50 : decode cX7_feed 50 = .ok (.lshr, 1) := by decide +kernel
theorem dX7_feed_51 : decode cX7_feed 51 = .ok (.l2i, 1) := by decide +kernel
theorem dX7_feed_52 : decode cX7_feed 52 = .ok (.sipush 255, 3) := by decide +kernel
theorem dX7_feed_55 : decode cX7_feed 55 = .ok (.iand, 1) := by decide +kernel
theorem dX7_feed_56 : decode cX7_feed 56 = .ok (.iastore, 1) := by decide +kernel
theorem dX7_feed_57 : decode cX7_feed 57 = .ok (.aload_n 0, 1) := by decide +kernel
theorem dX7_feed_58 : decode cX7_feed 58 = .ok (.dup, 1) := by decide +kernel
theorem dX7_feed_59 : decode cX7_feed 59 = .ok (.getfield 99, 3) := by decide +kernel
theorem dX7_feed_62 : decode cX7_feed 62 = .ok (.iconst 1, 1) := by decide +kernel
theorem dX7_feed_63 : decode cX7_feed 63 = .ok (.iadd, 1) := by decide +kernel
theorem dX7_feed_64 : decode cX7_feed 64 = .ok (.putfield 99, 3) := by decide +kernel
theorem dX7_feed_67 : decode cX7_feed 67 = .ok (.iinc 4 1, 3) := by decide +kernel
theorem dX7_feed_70 : decode cX7_feed 70 = .ok (.goto (-40), 3) := by decide +kernel
theorem dX7_feed_73 : decode cX7_feed 73 = .ok (.aload_n 0, 1) := by decide +kernel
theorem dX7_feed_74 : decode cX7_feed 74 = .ok (.getfield 99, 3) := by decide +kernel
theorem dX7_feed_77 : decode cX7_feed 77 = .ok (.ireturn, 1) := by decide +kernel
theorem dX7_text_0 : decode cX7_text 0 = .ok (.aload_n 0, 1) := by decide +kernel
theorem dX7_text_1 : decode cX7_text 1 = .ok (.aload_n 0, 1) := by decide +kernel
theorem dX7_text_2 : decode cX7_text 2 = .ok (.getfield 99, 3) := by decide +kernel
theorem dX7_text_5 : decode cX7_text 5 = .ok (.putfield 102, 3) := by decide +kernel
theorem dX7_text_8 : decode cX7_text 8 = .ok (.aload_n 0, 1) := by decide +kernel
theorem dX7_text_9 : decode cX7_text 9 = .ok (.iconst 0, 1) := by decide +kernel
theorem dX7_text_10 : decode cX7_text 10 = .ok (.putfield 99, 3) := by decide +kernel
theorem dX7_text_13 : decode cX7_text 13 = .ok (.aload_n 0, 1) := by decide +kernel
theorem dX7_text_14 : decode cX7_text 14 = .ok (.iconst 0, 1) := by decide +kernel
theorem dX7_text_15 : decode cX7_text 15 = .ok (.putfield 105, 3) := by decide +kernel
theorem dX7_text_18 : decode cX7_text 18 = .ok (.iconst 0, 1) := by decide +kernel
theorem dX7_text_19 : decode cX7_text 19 = .ok (.istore_n 1, 1) := by decide +kernel
theorem dX7_text_20 : decode cX7_text 20 = .ok (.iload_n 1, 1) := by decide +kernel
theorem dX7_text_21 : decode cX7_text 21 = .ok (.aload_n 0, 1) := by decide +kernel
theorem dX7_text_22 : decode cX7_text 22 = .ok (.getfield 102, 3) := by decide +kernel
theorem dX7_text_25 : decode cX7_text 25 = .ok (.if_icmp .ge 21, 3) := by decide +kernel
theorem dX7_text_28 : decode cX7_text 28 = .ok (.aload_n 0, 1) := by decide +kernel
theorem dX7_text_29 : decode cX7_text 29 = .ok (.getfield 13, 3) := by decide +kernel
theorem dX7_text_32 : decode cX7_text 32 = .ok (.iload_n 1, 1) := by decide +kernel
theorem dX7_text_33 : decode cX7_text 33 = .ok (.aload_n 0, 1) := by decide +kernel
theorem dX7_text_34 : decode cX7_text 34 = .ok (.getfield 7, 3) := by decide +kernel
theorem dX7_text_37 : decode cX7_text 37 = .ok (.iload_n 1, 1) := by decide +kernel
theorem dX7_text_38 : decode cX7_text 38 = .ok (.iaload, 1) := by decide +kernel
theorem dX7_text_39 : decode cX7_text 39 = .ok (.iastore, 1) := by decide +kernel
theorem dX7_text_40 : decode cX7_text 40 = .ok (.iinc 1 1, 3) := by decide +kernel
theorem dX7_text_43 : decode cX7_text 43 = .ok (.goto (-23), 3) := by decide +kernel
theorem dX7_text_46 : decode cX7_text 46 = .ok (.aload_n 0, 1) := by decide +kernel
theorem dX7_text_47 : decode cX7_text 47 = .ok (.getfield 102, 3) := by decide +kernel
theorem dX7_text_50 : decode cX7_text 50 = .ok (.ireturn, 1) := by decide +kernel
theorem dX7_peek_0 : decode cX7_peek 0 = .ok (.aload_n 0, 1) := by decide +kernel
theorem dX7_peek_1 : decode cX7_peek 1 = .ok (.getfield 108, 3) := by decide +kernel
theorem dX7_peek_4 : decode cX7_peek 4 = .ok (.aload_n 0, 1) := by decide +kernel
theorem dX7_peek_5 : decode cX7_peek 5 = .ok (.getfield 99, 3) := by decide +kernel
theorem dX7_peek_8 : decode cX7_peek 8 = .ok (.if_icmp .ge 15, 3) := by decide +kernel
theorem dX7_peek_11 : decode cX7_peek 11 = .ok (.aload_n 0, 1) := by decide +kernel
theorem dX7_peek_12 : decode cX7_peek 12 = .ok (.getfield 7, 3) := by decide +kernel
theorem dX7_peek_15 : decode cX7_peek 15 = .ok (.aload_n 0, 1) := by decide +kernel
theorem dX7_peek_16 : decode cX7_peek 16 = .ok (.getfield 108, 3) := by decide +kernel
theorem dX7_peek_19 : decode cX7_peek 19 = .ok (.iaload, 1) := by decide +kernel
theorem dX7_peek_20 : decode cX7_peek 20 = .ok (.goto 4, 3) := by decide +kernel
theorem dX7_peek_23 : decode cX7_peek 23 = .ok (.iconst (-1), 1) := by decide +kernel
theorem dX7_peek_24 : decode cX7_peek 24 = .ok (.ireturn, 1) := by decide +kernel
theorem dX7_opens_0 : decode cX7_opens 0 = .ok (.aload_n 0, 1) := by decide +kernel
theorem dX7_opens_1 : decode cX7_opens 1 = .ok (.getfield 58, 3) := by decide +kernel
theorem dX7_opens_4 : decode cX7_opens 4 = .ok (.aload_n 0, 1) := by decide +kernel
theorem dX7_opens_5 : decode cX7_opens 5 = .ok (.getfield 111, 3) := by decide +kernel
theorem dX7_opens_8 : decode cX7_opens 8 = .ok (.iconst 0, 1) := by decide +kernel
theorem dX7_opens_9 : decode cX7_opens 9 = .ok (.bastore, 1) := by decide +kernel
theorem dX7_opens_10 : decode cX7_opens 10 = .ok (.aload_n 0, 1) := by decide +kernel
theorem dX7_opens_11 : decode cX7_opens 11 = .ok (.getfield 54, 3) := by decide +kernel
theorem dX7_opens_14 : decode cX7_opens 14 = .ok (.aload_n 0, 1) := by decide +kernel
theorem dX7_opens_15 : decode cX7_opens 15 = .ok (.getfield 111, 3) := by decide +kernel
theorem dX7_opens_18 : decode cX7_opens 18 = .ok (.iconst 0, 1) := by decide +kernel
theorem dX7_opens_19 : decode cX7_opens 19 = .ok (.bastore, 1) := by decide +kernel
theorem dX7_opens_20 : decode cX7_opens 20 = .ok (.aload_n 0, 1) := by decide +kernel
theorem dX7_opens_21 : decode cX7_opens 21 = .ok (.getfield 61, 3) := by decide +kernel
theorem dX7_opens_24 : decode cX7_opens 24 = .ok (.aload_n 0, 1) := by decide +kernel
theorem dX7_opens_25 : decode cX7_opens 25 = .ok (.getfield 111, 3) := by decide +kernel
theorem dX7_opens_28 : decode cX7_opens 28 = .ok (.lconst 0, 1) := by decide +kernel
theorem dX7_opens_29 : decode cX7_opens 29 = .ok (.lastore, 1) := by decide +kernel
theorem dX7_opens_30 : decode cX7_opens 30 = .ok (.aload_n 0, 1) := by decide +kernel
theorem dX7_opens_31 : decode cX7_opens 31 = .ok (.getfield 64, 3) := by decide +kernel
theorem dX7_opens_34 : decode cX7_opens 34 = .ok (.aload_n 0, 1) := by decide +kernel
theorem dX7_opens_35 : decode cX7_opens 35 = .ok (.getfield 111, 3) := by decide +kernel
theorem dX7_opens_38 : decode cX7_opens 38 = .ok (.lconst 0, 1) := by decide +kernel
theorem dX7_opens_39 : decode cX7_opens 39 = .ok (.lastore, 1) := by decide +kernel
theorem dX7_opens_40 : decode cX7_opens 40 = .ok (.aload_n 0, 1) := by decide +kernel
theorem dX7_opens_41 : decode cX7_opens 41 = .ok (.invokevirtual 114, 3) := by decide +kernel
theorem dX7_opens_44 : decode cX7_opens 44 = .ok (.return_, 1) := by decide +kernel
theorem dX7_begins_0 : decode cX7_begins 0 = .ok (.aload_n 0, 1) := by decide +kernel
theorem dX7_begins_1 : decode cX7_begins 1 = .ok (.getfield 67, 3) := by decide +kernel
theorem dX7_begins_4 : decode cX7_begins 4 = .ok (.aload_n 0, 1) := by decide +kernel
theorem dX7_begins_5 : decode cX7_begins 5 = .ok (.getfield 111, 3) := by decide +kernel
theorem dX7_begins_8 : decode cX7_begins 8 = .ok (.iconst 1, 1) := by decide +kernel
theorem dX7_begins_9 : decode cX7_begins 9 = .ok (.bastore, 1) := by decide +kernel
theorem dX7_begins_10 : decode cX7_begins 10 = .ok (.aload_n 0, 1) := by decide +kernel
theorem dX7_begins_11 : decode cX7_begins 11 = .ok (.getfield 70, 3) := by decide +kernel
theorem dX7_begins_14 : decode cX7_begins 14 = .ok (.aload_n 0, 1) := by decide +kernel
theorem dX7_begins_15 : decode cX7_begins 15 = .ok (.getfield 111, 3) := by decide +kernel
theorem dX7_begins_18 : decode cX7_begins 18 = .ok (.lconst 0, 1) := by decide +kernel
theorem dX7_begins_19 : decode cX7_begins 19 = .ok (.lastore, 1) := by decide +kernel
theorem dX7_begins_20 : decode cX7_begins 20 = .ok (.aload_n 0, 1) := by decide +kernel
theorem dX7_begins_21 : decode cX7_begins 21 = .ok (.getfield 73, 3) := by decide +kernel
theorem dX7_begins_24 : decode cX7_begins 24 = .ok (.aload_n 0, 1) := by decide +kernel
theorem dX7_begins_25 : decode cX7_begins 25 = .ok (.getfield 111, 3) := by decide +kernel
theorem dX7_begins_28 : decode cX7_begins 28 = .ok (.lconst 0, 1) := by decide +kernel
theorem dX7_begins_29 : decode cX7_begins 29 = .ok (.lastore, 1) := by decide +kernel
theorem dX7_begins_30 : decode cX7_begins 30 = .ok (.aload_n 0, 1) := by decide +kernel
theorem dX7_begins_31 : decode cX7_begins 31 = .ok (.iconst 0, 1) := by decide +kernel
theorem dX7_begins_32 : decode cX7_begins 32 = .ok (.putfield 117, 3) := by decide +kernel
theorem dX7_begins_35 : decode cX7_begins 35 = .ok (.return_, 1) := by decide +kernel
theorem dX7_joins_0 : decode cX7_joins 0 = .ok (.aload_n 0, 1) := by decide +kernel
theorem dX7_joins_1 : decode cX7_joins 1 = .ok (.getfield 117, 3) := by decide +kernel
theorem dX7_joins_4 : decode cX7_joins 4 = .ok (.ifCond .ne 4, 3) := by decide +kernel
theorem dX7_joins_7 : decode cX7_joins 7 = .ok (.return_, 1) := by decide +kernel
theorem dX7_joins_8 : decode cX7_joins 8 = .ok (.iconst 0, 1) := by decide +kernel
theorem dX7_joins_9 : decode cX7_joins 9 = .ok (.istore_n 1, 1) := by decide +kernel
theorem dX7_joins_10 : decode cX7_joins 10 = .ok (.iload_n 1, 1) := by decide +kernel
theorem dX7_joins_11 : decode cX7_joins 11 = .ok (.aload_n 0, 1) := by decide +kernel
theorem dX7_joins_12 : decode cX7_joins 12 = .ok (.getfield 121, 3) := by decide +kernel
theorem dX7_joins_15 : decode cX7_joins 15 = .ok (.if_icmp .ge 44, 3) := by decide +kernel
theorem dX7_joins_18 : decode cX7_joins 18 = .ok (.aload_n 0, 1) := by decide +kernel
theorem dX7_joins_19 : decode cX7_joins 19 = .ok (.getfield 51, 3) := by decide +kernel
theorem dX7_joins_22 : decode cX7_joins 22 = .ok (.iload_n 1, 1) := by decide +kernel
theorem dX7_joins_23 : decode cX7_joins 23 = .ok (.dup2, 1) := by decide +kernel
theorem dX7_joins_24 : decode cX7_joins 24 = .ok (.laload, 1) := by decide +kernel
theorem dX7_joins_25 : decode cX7_joins 25 = .ok (.aload_n 0, 1) := by decide +kernel
theorem dX7_joins_26 : decode cX7_joins 26 = .ok (.getfield 73, 3) := by decide +kernel
theorem dX7_joins_29 : decode cX7_joins 29 = .ok (.aload_n 0, 1) := by decide +kernel
theorem dX7_joins_30 : decode cX7_joins 30 = .ok (.getfield 111, 3) := by decide +kernel
theorem dX7_joins_33 : decode cX7_joins 33 = .ok (.laload, 1) := by decide +kernel
theorem dX7_joins_34 : decode cX7_joins 34 = .ok (.iload_n 1, 1) := by decide +kernel
theorem dX7_joins_35 : decode cX7_joins 35 = .ok (.lshr, 1) := by decide +kernel
theorem dX7_joins_36 : decode cX7_joins 36 = .ok (.lconst 1, 1) := by decide +kernel
theorem dX7_joins_37 : decode cX7_joins 37 = .ok (.land, 1) := by decide +kernel
theorem dX7_joins_38 : decode cX7_joins 38 = .ok (.lconst 1, 1) := by decide +kernel
theorem dX7_joins_39 : decode cX7_joins 39 = .ok (.lcmp, 1) := by decide +kernel
theorem dX7_joins_40 : decode cX7_joins 40 = .ok (.ifCond .ne 10, 3) := by decide +kernel
theorem dX7_joins_43 : decode cX7_joins 43 = .ok (.aload_n 0, 1) := by decide +kernel
theorem dX7_joins_44 : decode cX7_joins 44 = .ok (.getfield 124, 3) := by decide +kernel
theorem dX7_joins_47 : decode cX7_joins 47 = .ok (.goto 4, 3) := by decide +kernel
theorem dX7_joins_50 : decode cX7_joins 50 = .ok (.lconst 0, 1) := by decide +kernel
theorem dX7_joins_51 : decode cX7_joins 51 = .ok (.lor, 1) := by decide +kernel
theorem dX7_joins_52 : decode cX7_joins 52 = .ok (.lastore, 1) := by decide +kernel
theorem dX7_joins_53 : decode cX7_joins 53 = .ok (.iinc 1 1, 3) := by decide +kernel
theorem dX7_joins_56 : decode cX7_joins 56 = .ok (.goto (-46), 3) := by decide +kernel
theorem dX7_joins_59 : decode cX7_joins 59 = .ok (.aload_n 0, 1) := by decide +kernel
theorem dX7_joins_60 : decode cX7_joins 60 = .ok (.getfield 70, 3) := by decide +kernel
theorem dX7_joins_63 : decode cX7_joins 63 = .ok (.aload_n 0, 1) := by decide +kernel
theorem dX7_joins_64 : decode cX7_joins 64 = .ok (.getfield 111, 3) := by decide +kernel
theorem dX7_joins_67 : decode cX7_joins 67 = .ok (.dup2, 1) := by decide +kernel
theorem dX7_joins_68 : decode cX7_joins 68 = .ok (.laload, 1) := by decide +kernel
theorem dX7_joins_69 : decode cX7_joins 69 = .ok (.aload_n 0, 1) := by decide +kernel
theorem dX7_joins_70 : decode cX7_joins 70 = .ok (.getfield 67, 3) := by decide +kernel
theorem dX7_joins_73 : decode cX7_joins 73 = .ok (.aload_n 0, 1) := by decide +kernel
theorem dX7_joins_74 : decode cX7_joins 74 = .ok (.getfield 111, 3) := by decide +kernel
theorem dX7_joins_77 : decode cX7_joins 77 = .ok (.baload, 1) := by decide +kernel
theorem dX7_joins_78 : decode cX7_joins 78 = .ok (.ifCond .eq 10, 3) := by decide +kernel
theorem dX7_joins_81 : decode cX7_joins 81 = .ok (.aload_n 0, 1) := by decide +kernel
theorem dX7_joins_82 : decode cX7_joins 82 = .ok (.getfield 124, 3) := by decide +kernel
theorem dX7_joins_85 : decode cX7_joins 85 = .ok (.goto 4, 3) := by decide +kernel
theorem dX7_joins_88 : decode cX7_joins 88 = .ok (.lconst 0, 1) := by decide +kernel
theorem dX7_joins_89 : decode cX7_joins 89 = .ok (.lor, 1) := by decide +kernel
theorem dX7_joins_90 : decode cX7_joins 90 = .ok (.lastore, 1) := by decide +kernel
theorem dX7_joins_91 : decode cX7_joins 91 = .ok (.aload_n 0, 1) := by decide +kernel
theorem dX7_joins_92 : decode cX7_joins 92 = .ok (.getfield 73, 3) := by decide +kernel
theorem dX7_joins_95 : decode cX7_joins 95 = .ok (.aload_n 0, 1) := by decide +kernel
theorem dX7_joins_96 : decode cX7_joins 96 = .ok (.getfield 111, 3) := by decide +kernel
theorem dX7_joins_99 : decode cX7_joins 99 = .ok (.aload_n 0, 1) := by decide +kernel
theorem dX7_joins_100 : decode cX7_joins 100 = .ok (.getfield 128, 3) := by decide +kernel
theorem dX7_joins_103 : decode cX7_joins 103 = .ok (.ifCond .eq 20, 3) := by decide +kernel
theorem dX7_joins_106 : decode cX7_joins 106 = .ok (.aload_n 0, 1) := by decide +kernel
theorem dX7_joins_107 : decode cX7_joins 107 = .ok (.getfield 73, 3) := by decide +kernel
theorem dX7_joins_110 : decode cX7_joins 110 = .ok (.aload_n 0, 1) := by decide +kernel
theorem dX7_joins_111 : decode cX7_joins 111 = .ok (.getfield 111, 3) := by decide +kernel
theorem dX7_joins_114 : decode cX7_joins 114 = .ok (.laload, 1) := by decide +kernel
theorem dX7_joins_115 : decode cX7_joins 115 = .ok (.aload_n 0, 1) := by decide +kernel
theorem dX7_joins_116 : decode cX7_joins 116 = .ok (.getfield 131, 3) := by decide +kernel
theorem dX7_joins_119 : decode cX7_joins 119 = .ok (.lor, 1) := by decide +kernel
theorem dX7_joins_120 : decode cX7_joins 120 = .ok (.goto 7, 3) := by decide +kernel
theorem dX7_joins_123 : decode cX7_joins 123 = .ok (.aload_n 0, 1) := by decide +kernel
theorem dX7_joins_124 : decode cX7_joins 124 = .ok (.getfield 131, 3) := by decide +kernel
theorem dX7_joins_127 : decode cX7_joins 127 = .ok (.lastore, 1) := by decide +kernel
theorem dX7_joins_128 : decode cX7_joins 128 = .ok (.aload_n 0, 1) := by decide +kernel
theorem dX7_joins_129 : decode cX7_joins 129 = .ok (.getfield 67, 3) := by decide +kernel
theorem dX7_joins_132 : decode cX7_joins 132 = .ok (.aload_n 0, 1) := by decide +kernel
theorem dX7_joins_133 : decode cX7_joins 133 = .ok (.getfield 111, 3) := by decide +kernel
theorem dX7_joins_136 : decode cX7_joins 136 = .ok (.dup2, 1) := by decide +kernel
theorem dX7_joins_137 : decode cX7_joins 137 = .ok (.baload, 1) := by decide +kernel
theorem dX7_joins_138 : decode cX7_joins 138 = .ok (.aload_n 0, 1) := by decide +kernel
theorem dX7_joins_139 : decode cX7_joins 139 = .ok (.getfield 128, 3) := by decide +kernel
theorem dX7_joins_142 : decode cX7_joins 142 = .ok (.iand, 1) := by decide +kernel
theorem dX7_joins_143 : decode cX7_joins 143 = .ok (.bastore, 1) := by decide +kernel
theorem dX7_joins_144 : decode cX7_joins 144 = .ok (.aload_n 0, 1) := by decide +kernel
theorem dX7_joins_145 : decode cX7_joins 145 = .ok (.iconst 0, 1) := by decide +kernel
theorem dX7_joins_146 : decode cX7_joins 146 = .ok (.putfield 117, 3) := by decide +kernel
theorem dX7_joins_149 : decode cX7_joins 149 = .ok (.return_, 1) := by decide +kernel
theorem dX7_closes_0 : decode cX7_closes 0 = .ok (.aload_n 0, 1) := by decide +kernel
theorem dX7_closes_1 : decode cX7_closes 1 = .ok (.invokevirtual 134, 3) := by decide +kernel
theorem dX7_closes_4 : decode cX7_closes 4 = .ok (.aload_n 0, 1) := by decide +kernel
theorem dX7_closes_5 : decode cX7_closes 5 = .ok (.getfield 54, 3) := by decide +kernel
theorem dX7_closes_8 : decode cX7_closes 8 = .ok (.aload_n 0, 1) := by decide +kernel
theorem dX7_closes_9 : decode cX7_closes 9 = .ok (.getfield 111, 3) := by decide +kernel
theorem dX7_closes_12 : decode cX7_closes 12 = .ok (.dup2, 1) := by decide +kernel
theorem dX7_closes_13 : decode cX7_closes 13 = .ok (.baload, 1) := by decide +kernel
theorem dX7_closes_14 : decode cX7_closes 14 = .ok (.aload_n 0, 1) := by decide +kernel
theorem dX7_closes_15 : decode cX7_closes 15 = .ok (.getfield 67, 3) := by decide +kernel
theorem dX7_closes_18 : decode cX7_closes 18 = .ok (.aload_n 0, 1) := by decide +kernel
theorem dX7_closes_19 : decode cX7_closes 19 = .ok (.getfield 111, 3) := by decide +kernel
theorem dX7_closes_22 : decode cX7_closes 22 = .ok (.baload, 1) := by decide +kernel
theorem dX7_closes_23 : decode cX7_closes 23 = .ok (.ior, 1) := by decide +kernel
theorem dX7_closes_24 : decode cX7_closes 24 = .ok (.bastore, 1) := by decide +kernel
theorem dX7_closes_25 : decode cX7_closes 25 = .ok (.aload_n 0, 1) := by decide +kernel
theorem dX7_closes_26 : decode cX7_closes 26 = .ok (.getfield 61, 3) := by decide +kernel
theorem dX7_closes_29 : decode cX7_closes 29 = .ok (.aload_n 0, 1) := by decide +kernel
theorem dX7_closes_30 : decode cX7_closes 30 = .ok (.getfield 111, 3) := by decide +kernel
theorem dX7_closes_33 : decode cX7_closes 33 = .ok (.dup2, 1) := by decide +kernel
theorem dX7_closes_34 : decode cX7_closes 34 = .ok (.laload, 1) := by decide +kernel
theorem dX7_closes_35 : decode cX7_closes 35 = .ok (.aload_n 0, 1) := by decide +kernel
theorem dX7_closes_36 : decode cX7_closes 36 = .ok (.getfield 70, 3) := by decide +kernel
theorem dX7_closes_39 : decode cX7_closes 39 = .ok (.aload_n 0, 1) := by decide +kernel
theorem dX7_closes_40 : decode cX7_closes 40 = .ok (.getfield 111, 3) := by decide +kernel
theorem dX7_closes_43 : decode cX7_closes 43 = .ok (.laload, 1) := by decide +kernel
theorem dX7_closes_44 : decode cX7_closes 44 = .ok (.lor, 1) := by decide +kernel
theorem dX7_closes_45 : decode cX7_closes 45 = .ok (.lastore, 1) := by decide +kernel
theorem dX7_closes_46 : decode cX7_closes 46 = .ok (.aload_n 0, 1) := by decide +kernel
theorem dX7_closes_47 : decode cX7_closes 47 = .ok (.getfield 64, 3) := by decide +kernel
theorem dX7_closes_50 : decode cX7_closes 50 = .ok (.aload_n 0, 1) := by decide +kernel
theorem dX7_closes_51 : decode cX7_closes 51 = .ok (.getfield 111, 3) := by decide +kernel
theorem dX7_closes_54 : decode cX7_closes 54 = .ok (.dup2, 1) := by decide +kernel
theorem dX7_closes_55 : decode cX7_closes 55 = .ok (.laload, 1) := by decide +kernel
theorem dX7_closes_56 : decode cX7_closes 56 = .ok (.aload_n 0, 1) := by decide +kernel
theorem dX7_closes_57 : decode cX7_closes 57 = .ok (.getfield 73, 3) := by decide +kernel
theorem dX7_closes_60 : decode cX7_closes 60 = .ok (.aload_n 0, 1) := by decide +kernel
theorem dX7_closes_61 : decode cX7_closes 61 = .ok (.getfield 111, 3) := by decide +kernel
theorem dX7_closes_64 : decode cX7_closes 64 = .ok (.laload, 1) := by decide +kernel
theorem dX7_closes_65 : decode cX7_closes 65 = .ok (.lor, 1) := by decide +kernel
theorem dX7_closes_66 : decode cX7_closes 66 = .ok (.lastore, 1) := by decide +kernel
theorem dX7_closes_67 : decode cX7_closes 67 = .ok (.return_, 1) := by decide +kernel
theorem dX7_piece_0 : decode cX7_piece 0 = .ok (.aload_n 0, 1) := by decide +kernel
theorem dX7_piece_1 : decode cX7_piece 1 = .ok (.invokevirtual 134, 3) := by decide +kernel
theorem dX7_piece_4 : decode cX7_piece 4 = .ok (.aload_n 0, 1) := by decide +kernel
theorem dX7_piece_5 : decode cX7_piece 5 = .ok (.iconst 1, 1) := by decide +kernel
theorem dX7_piece_6 : decode cX7_piece 6 = .ok (.putfield 117, 3) := by decide +kernel
theorem dX7_piece_9 : decode cX7_piece 9 = .ok (.aload_n 0, 1) := by decide +kernel
theorem dX7_piece_10 : decode cX7_piece 10 = .ok (.iload_n 1, 1) := by decide +kernel
theorem dX7_piece_11 : decode cX7_piece 11 = .ok (.putfield 128, 3) := by decide +kernel
theorem dX7_piece_14 : decode cX7_piece 14 = .ok (.aload_n 0, 1) := by decide +kernel
theorem dX7_piece_15 : decode cX7_piece 15 = .ok (.lload_n 2, 1) := by decide +kernel
theorem dX7_piece_16 : decode cX7_piece 16 = .ok (.putfield 124, 3) := by decide +kernel
theorem dX7_piece_19 : decode cX7_piece 19 = .ok (.aload_n 0, 1) := by decide +kernel
theorem dX7_piece_20 : decode cX7_piece 20 = .ok (.lload 4, 2) := by decide +kernel
theorem dX7_piece_22 : decode cX7_piece 22 = .ok (.putfield 131, 3) := by decide +kernel
theorem dX7_piece_25 : decode cX7_piece 25 = .ok (.return_, 1) := by decide +kernel
theorem dX7_takes_0 : decode cX7_takes 0 = .ok (.aload_n 0, 1) := by decide +kernel
theorem dX7_takes_1 : decode cX7_takes 1 = .ok (.getfield 48, 3) := by decide +kernel
theorem dX7_takes_4 : decode cX7_takes 4 = .ok (.iconst 4, 1) := by decide +kernel
theorem dX7_takes_5 : decode cX7_takes 5 = .ok (.iload_n 1, 1) := by decide +kernel
theorem dX7_takes_6 : decode cX7_takes 6 = .ok (.imul, 1) := by decide +kernel
theorem dX7_takes_7 : decode cX7_takes 7 = .ok (.iload_n 2, 1) := by decide +kernel
theorem dX7_takes_8 : decode cX7_takes 8 = .ok (.bipush 64, 2) := by decide +kernel
theorem dX7_takes_10 : decode cX7_takes 10 = .ok (.idiv, 1) := by decide +kernel
theorem dX7_takes_11 : decode cX7_takes 11 = .ok (.iadd, 1) := by decide +kernel
theorem dX7_takes_12 : decode cX7_takes 12 = .ok (.dup2, 1) := by decide +kernel
theorem dX7_takes_13 : decode cX7_takes 13 = .ok (.laload, 1) := by decide +kernel
theorem dX7_takes_14 : decode cX7_takes 14 = .ok (.lconst 1, 1) := by decide +kernel
theorem dX7_takes_15 : decode cX7_takes 15 = .ok (.iload_n 2, 1) := by decide +kernel
theorem dX7_takes_16 : decode cX7_takes 16 = .ok (.bipush 64, 2) := by decide +kernel
theorem dX7_takes_18 : decode cX7_takes 18 = .ok (.irem, 1) := by decide +kernel
theorem dX7_takes_19 : decode cX7_takes 19 = .ok (.lshl, 1) := by decide +kernel
theorem dX7_takes_20 : decode cX7_takes 20 = .ok (.lor, 1) := by decide +kernel
theorem dX7_takes_21 : decode cX7_takes 21 = .ok (.lastore, 1) := by decide +kernel
theorem dX7_takes_22 : decode cX7_takes 22 = .ok (.return_, 1) := by decide +kernel
theorem dX7_atom_0 : decode cX7_atom 0 = .ok (.iconst 0, 1) := by decide +kernel
theorem dX7_atom_1 : decode cX7_atom 1 = .ok (.istore_n 1, 1) := by decide +kernel
theorem dX7_atom_2 : decode cX7_atom 2 = .ok (.iload_n 1, 1) := by decide +kernel
theorem dX7_atom_3 : decode cX7_atom 3 = .ok (.iconst 4, 1) := by decide +kernel
theorem dX7_atom_4 : decode cX7_atom 4 = .ok (.if_icmp .ge 23, 3) := by decide +kernel
theorem dX7_atom_7 : decode cX7_atom 7 = .ok (.aload_n 0, 1) := by decide +kernel
theorem dX7_atom_8 : decode cX7_atom 8 = .ok (.getfield 48, 3) := by decide +kernel
theorem dX7_atom_11 : decode cX7_atom 11 = .ok (.iconst 4, 1) := by decide +kernel
theorem dX7_atom_12 : decode cX7_atom 12 = .ok (.aload_n 0, 1) := by decide +kernel
theorem dX7_atom_13 : decode cX7_atom 13 = .ok (.getfield 121, 3) := by decide +kernel
theorem dX7_atom_16 : decode cX7_atom 16 = .ok (.imul, 1) := by decide +kernel
theorem dX7_atom_17 : decode cX7_atom 17 = .ok (.iload_n 1, 1) := by decide +kernel
theorem dX7_atom_18 : decode cX7_atom 18 = .ok (.iadd, 1) := by decide +kernel
theorem dX7_atom_19 : decode cX7_atom 19 = .ok (.lconst 0, 1) := by decide +kernel
theorem dX7_atom_20 : decode cX7_atom 20 = .ok (.lastore, 1) := by decide +kernel
theorem dX7_atom_21 : decode cX7_atom 21 = .ok (.iinc 1 1, 3) := by decide +kernel
theorem dX7_atom_24 : decode cX7_atom 24 = .ok (.goto (-22), 3) := by decide +kernel
theorem dX7_atom_27 : decode cX7_atom 27 = .ok (.aload_n 0, 1) := by decide +kernel
theorem dX7_atom_28 : decode cX7_atom 28 = .ok (.getfield 51, 3) := by decide +kernel
theorem dX7_atom_31 : decode cX7_atom 31 = .ok (.aload_n 0, 1) := by decide +kernel
theorem dX7_atom_32 : decode cX7_atom 32 = .ok (.getfield 121, 3) := by decide +kernel
theorem dX7_atom_35 : decode cX7_atom 35 = .ok (.lconst 0, 1) := by decide +kernel
theorem dX7_atom_36 : decode cX7_atom 36 = .ok (.lastore, 1) := by decide +kernel
theorem dX7_atom_37 : decode cX7_atom 37 = .ok (.aload_n 0, 1) := by decide +kernel
theorem dX7_atom_38 : decode cX7_atom 38 = .ok (.dup, 1) := by decide +kernel
theorem dX7_atom_39 : decode cX7_atom 39 = .ok (.getfield 121, 3) := by decide +kernel
theorem dX7_atom_42 : decode cX7_atom 42 = .ok (.iconst 1, 1) := by decide +kernel
theorem dX7_atom_43 : decode cX7_atom 43 = .ok (.iadd, 1) := by decide +kernel
theorem dX7_atom_44 : decode cX7_atom 44 = .ok (.putfield 121, 3) := by decide +kernel
theorem dX7_atom_47 : decode cX7_atom 47 = .ok (.return_, 1) := by decide +kernel
theorem dX7_signOfSet_0 : decode cX7_signOfSet 0 = .ok (.aload_n 0, 1) := by decide +kernel
theorem dX7_signOfSet_1 : decode cX7_signOfSet 1 = .ok (.invokevirtual 137, 3) := by decide +kernel
theorem dX7_signOfSet_4 : decode cX7_signOfSet 4 = .ok (.istore_n 1, 1) := by decide +kernel
theorem dX7_signOfSet_5 : decode cX7_signOfSet 5 = .ok (.iload_n 1, 1) := by decide +kernel
theorem dX7_signOfSet_6 : decode cX7_signOfSet 6 = .ok (.bipush 92, 2) := by decide +kernel
theorem dX7_signOfSet_8 : decode cX7_signOfSet 8 = .ok (.if_icmp .ne 55, 3) := by decide +kernel
theorem dX7_signOfSet_11 : decode cX7_signOfSet 11 = .ok (.aload_n 0, 1) := by decide +kernel
theorem dX7_signOfSet_12 : decode cX7_signOfSet 12 = .ok (.dup, 1) := by decide +kernel
theorem dX7_signOfSet_13 : decode cX7_signOfSet 13 = .ok (.getfield 108, 3) := by decide +kernel
theorem dX7_signOfSet_16 : decode cX7_signOfSet 16 = .ok (.iconst 1, 1) := by decide +kernel
theorem dX7_signOfSet_17 : decode cX7_signOfSet 17 = .ok (.iadd, 1) := by decide +kernel
theorem dX7_signOfSet_18 : decode cX7_signOfSet 18 = .ok (.putfield 108, 3) := by decide +kernel
theorem dX7_signOfSet_21 : decode cX7_signOfSet 21 = .ok (.aload_n 0, 1) := by decide +kernel
theorem dX7_signOfSet_22 : decode cX7_signOfSet 22 = .ok (.aload_n 0, 1) := by decide +kernel
theorem dX7_signOfSet_23 : decode cX7_signOfSet 23 = .ok (.invokevirtual 137, 3) := by decide +kernel
theorem dX7_signOfSet_26 : decode cX7_signOfSet 26 = .ok (.putfield 141, 3) := by decide +kernel
theorem dX7_signOfSet_29 : decode cX7_signOfSet 29 = .ok (.aload_n 0, 1) := by decide +kernel
theorem dX7_signOfSet_30 : decode cX7_signOfSet 30 = .ok (.dup, 1) := by decide +kernel
theorem dX7_signOfSet_31 : decode cX7_signOfSet 31 = .ok (.getfield 108, 3) := by decide +kernel
theorem dX7_signOfSet_34 : decode cX7_signOfSet 34 = .ok (.aload_n 0, 1) := by decide +kernel
theorem dX7_signOfSet_35 : decode cX7_signOfSet 35 = .ok (.getfield 141, 3) := by decide +kernel
theorem dX7_signOfSet_38 : decode cX7_signOfSet 38 = .ok (.ifCond .ge 7, 3) := by decide +kernel
theorem dX7_signOfSet_41 : decode cX7_signOfSet 41 = .ok (.iconst 0, 1) := by decide +kernel
theorem dX7_signOfSet_42 : decode cX7_signOfSet 42 = .ok (.goto 4, 3) := by decide +kernel
theorem dX7_signOfSet_45 : decode cX7_signOfSet 45 = .ok (.iconst 1, 1) := by decide +kernel
theorem dX7_signOfSet_46 : decode cX7_signOfSet 46 = .ok (.iadd, 1) := by decide +kernel
theorem dX7_signOfSet_47 : decode cX7_signOfSet 47 = .ok (.putfield 108, 3) := by decide +kernel
theorem dX7_signOfSet_50 : decode cX7_signOfSet 50 = .ok (.aload_n 0, 1) := by decide +kernel
theorem dX7_signOfSet_51 : decode cX7_signOfSet 51 = .ok (.getfield 141, 3) := by decide +kernel
theorem dX7_signOfSet_54 : decode cX7_signOfSet 54 = .ok (.ifCond .lt 7, 3) := by decide +kernel
theorem dX7_signOfSet_57 : decode cX7_signOfSet 57 = .ok (.iconst 1, 1) := by decide +kernel
theorem dX7_signOfSet_58 : decode cX7_signOfSet 58 = .ok (.goto 4, 3) := by decide +kernel
theorem dX7_signOfSet_61 : decode cX7_signOfSet 61 = .ok (.iconst 0, 1) := by decide +kernel
theorem dX7_signOfSet_62 : decode cX7_signOfSet 62 = .ok (.ireturn, 1) := by decide +kernel
theorem dX7_signOfSet_63 : decode cX7_signOfSet 63 = .ok (.aload_n 0, 1) := by decide +kernel
theorem dX7_signOfSet_64 : decode cX7_signOfSet 64 = .ok (.iload_n 1, 1) := by decide +kernel
theorem dX7_signOfSet_65 : decode cX7_signOfSet 65 = .ok (.putfield 141, 3) := by decide +kernel
theorem dX7_signOfSet_68 : decode cX7_signOfSet 68 = .ok (.iload_n 1, 1) := by decide +kernel
theorem dX7_signOfSet_69 : decode cX7_signOfSet 69 = .ok (.ifCond .lt 25, 3) := by decide +kernel
theorem dX7_signOfSet_72 : decode cX7_signOfSet 72 = .ok (.iload_n 1, 1) := by decide +kernel
theorem dX7_signOfSet_73 : decode cX7_signOfSet 73 = .ok (.bipush 93, 2) := by decide +kernel
theorem dX7_signOfSet_75 : decode cX7_signOfSet 75 = .ok (.if_icmp .eq 19, 3) := by decide +kernel
theorem dX7_signOfSet_78 : decode cX7_signOfSet 78 = .ok (.iload_n 1, 1) := by decide +kernel
theorem dX7_signOfSet_79 : decode cX7_signOfSet 79 = .ok (.bipush 94, 2) := by decide +kernel
theorem dX7_signOfSet_81 : decode cX7_signOfSet 81 = .ok (.if_icmp .eq 13, 3) := by decide +kernel
theorem dX7_signOfSet_84 : decode cX7_signOfSet 84 = .ok (.iload_n 1, 1) := by decide +kernel
theorem dX7_signOfSet_85 : decode cX7_signOfSet 85 = .ok (.bipush 45, 2) := by decide +kernel
theorem dX7_signOfSet_87 : decode cX7_signOfSet 87 = .ok (.if_icmp .eq 7, 3) := by decide +kernel
theorem dX7_signOfSet_90 : decode cX7_signOfSet 90 = .ok (.iconst 1, 1) := by decide +kernel
theorem dX7_signOfSet_91 : decode cX7_signOfSet 91 = .ok (.goto 4, 3) := by decide +kernel
theorem dX7_signOfSet_94 : decode cX7_signOfSet 94 = .ok (.iconst 0, 1) := by decide +kernel
theorem dX7_signOfSet_95 : decode cX7_signOfSet 95 = .ok (.istore_n 2, 1) := by decide +kernel
theorem dX7_signOfSet_96 : decode cX7_signOfSet 96 = .ok (.aload_n 0, 1) := by decide +kernel
theorem dX7_signOfSet_97 : decode cX7_signOfSet 97 = .ok (.dup, 1) := by decide +kernel
theorem dX7_signOfSet_98 : decode cX7_signOfSet 98 = .ok (.getfield 108, 3) := by decide +kernel
theorem dX7_signOfSet_101 : decode cX7_signOfSet 101 = .ok (.iload_n 2, 1) := by decide +kernel
theorem dX7_signOfSet_102 : decode cX7_signOfSet 102 = .ok (.ifCond .eq 7, 3) := by decide +kernel
theorem dX7_signOfSet_105 : decode cX7_signOfSet 105 = .ok (.iconst 1, 1) := by decide +kernel
theorem dX7_signOfSet_106 : decode cX7_signOfSet 106 = .ok (.goto 4, 3) := by decide +kernel
theorem dX7_signOfSet_109 : decode cX7_signOfSet 109 = .ok (.iconst 0, 1) := by decide +kernel
theorem dX7_signOfSet_110 : decode cX7_signOfSet 110 = .ok (.iadd, 1) := by decide +kernel
theorem dX7_signOfSet_111 : decode cX7_signOfSet 111 = .ok (.putfield 108, 3) := by decide +kernel
theorem dX7_signOfSet_114 : decode cX7_signOfSet 114 = .ok (.iload_n 2, 1) := by decide +kernel
theorem dX7_signOfSet_115 : decode cX7_signOfSet 115 = .ok (.ireturn, 1) := by decide +kernel
theorem dX7_set_0 : decode cX7_set 0 = .ok (.aload_n 0, 1) := by decide +kernel
theorem dX7_set_1 : decode cX7_set 1 = .ok (.invokevirtual 137, 3) := by decide +kernel
theorem dX7_set_4 : decode cX7_set 4 = .ok (.bipush 94, 2) := by decide +kernel
theorem dX7_set_6 : decode cX7_set 6 = .ok (.if_icmp .ne 7, 3) := by decide +kernel
theorem dX7_set_9 : decode cX7_set 9 = .ok (.iconst 1, 1) := by decide +kernel
theorem dX7_set_10 : decode cX7_set 10 = .ok (.goto 4, 3) := by decide +kernel
theorem dX7_set_13 : decode cX7_set 13 = .ok (.iconst 0, 1) := by decide +kernel
theorem dX7_set_14 : decode cX7_set 14 = .ok (.istore_n 2, 1) := by decide +kernel
theorem dX7_set_15 : decode cX7_set 15 = .ok (.aload_n 0, 1) := by decide +kernel
theorem dX7_set_16 : decode cX7_set 16 = .ok (.dup, 1) := by decide +kernel
theorem dX7_set_17 : decode cX7_set 17 = .ok (.getfield 108, 3) := by decide +kernel
theorem dX7_set_20 : decode cX7_set 20 = .ok (.iload_n 2, 1) := by decide +kernel
theorem dX7_set_21 : decode cX7_set 21 = .ok (.ifCond .eq 7, 3) := by decide +kernel
theorem dX7_set_24 : decode cX7_set 24 = .ok (.iconst 1, 1) := by decide +kernel
theorem dX7_set_25 : decode cX7_set 25 = .ok (.goto 4, 3) := by decide +kernel
theorem dX7_set_28 : decode cX7_set 28 = .ok (.iconst 0, 1) := by decide +kernel
theorem dX7_set_29 : decode cX7_set 29 = .ok (.iadd, 1) := by decide +kernel
theorem dX7_set_30 : decode cX7_set 30 = .ok (.putfield 108, 3) := by decide +kernel
theorem dX7_set_33 : decode cX7_set 33 = .ok (.iconst 1, 1) := by decide +kernel
theorem dX7_set_34 : decode cX7_set 34 = .ok (.istore_n 3, 1) := by decide +kernel
theorem dX7_set_35 : decode cX7_set 35 = .ok (.iload_n 3, 1) := by decide +kernel
theorem dX7_set_36 : decode cX7_set 36 = .ok (.ifCond .eq 119, 3) := by decide +kernel
theorem dX7_set_39 : decode cX7_set 39 = .ok (.aload_n 0, 1) := by decide +kernel
theorem dX7_set_40 : decode cX7_set 40 = .ok (.invokevirtual 144, 3) := by decide +kernel
theorem dX7_set_43 : decode cX7_set 43 = .ok (.ifCond .ne 5, 3) := by decide +kernel
theorem dX7_set_46 : decode cX7_set 46 = .ok (.iconst 0, 1) := by decide +kernel
theorem dX7_set_47 : decode cX7_set 47 = .ok (.ireturn, 1) := by decide +kernel
theorem dX7_set_48 : decode cX7_set 48 = .ok (.aload_n 0, 1) := by decide +kernel
theorem dX7_set_49 : decode cX7_set 49 = .ok (.getfield 141, 3) := by decide +kernel
theorem dX7_set_52 : decode cX7_set 52 = .ok (.istore 4, 2) := by decide +kernel
theorem dX7_set_54 : decode cX7_set 54 = .ok (.iload 4, 2) := by decide +kernel
theorem dX7_set_56 : decode cX7_set 56 = .ok (.istore 5, 2) := by decide +kernel
theorem dX7_set_58 : decode cX7_set 58 = .ok (.aload_n 0, 1) := by decide +kernel
theorem dX7_set_59 : decode cX7_set 59 = .ok (.invokevirtual 137, 3) := by decide +kernel
theorem dX7_set_62 : decode cX7_set 62 = .ok (.bipush 45, 2) := by decide +kernel
theorem dX7_set_64 : decode cX7_set 64 = .ok (.if_icmp .ne 49, 3) := by decide +kernel
theorem dX7_set_67 : decode cX7_set 67 = .ok (.aload_n 0, 1) := by decide +kernel
theorem dX7_set_68 : decode cX7_set 68 = .ok (.dup, 1) := by decide +kernel
theorem dX7_set_69 : decode cX7_set 69 = .ok (.getfield 108, 3) := by decide +kernel
theorem dX7_set_72 : decode cX7_set 72 = .ok (.iconst 1, 1) := by decide +kernel
theorem dX7_set_73 : decode cX7_set 73 = .ok (.iadd, 1) := by decide +kernel
theorem dX7_set_74 : decode cX7_set 74 = .ok (.putfield 108, 3) := by decide +kernel
theorem dX7_set_77 : decode cX7_set 77 = .ok (.aload_n 0, 1) := by decide +kernel
theorem dX7_set_78 : decode cX7_set 78 = .ok (.getfield 108, 3) := by decide +kernel
theorem dX7_set_81 : decode cX7_set 81 = .ok (.istore 6, 2) := by decide +kernel
theorem dX7_set_83 : decode cX7_set 83 = .ok (.aload_n 0, 1) := by decide +kernel
theorem dX7_set_84 : decode cX7_set 84 = .ok (.invokevirtual 144, 3) := by decide +kernel
theorem dX7_set_87 : decode cX7_set 87 = .ok (.ifCond .ne 5, 3) := by decide +kernel
theorem dX7_set_90 : decode cX7_set 90 = .ok (.iconst 0, 1) := by decide +kernel
theorem dX7_set_91 : decode cX7_set 91 = .ok (.ireturn, 1) := by decide +kernel
theorem dX7_set_92 : decode cX7_set 92 = .ok (.aload_n 0, 1) := by decide +kernel
theorem dX7_set_93 : decode cX7_set 93 = .ok (.getfield 141, 3) := by decide +kernel
theorem dX7_set_96 : decode cX7_set 96 = .ok (.istore 5, 2) := by decide +kernel
theorem dX7_set_98 : decode cX7_set 98 = .ok (.iload 5, 2) := by decide +kernel
theorem dX7_set_100 : decode cX7_set 100 = .ok (.iload 4, 2) := by decide +kernel
theorem dX7_set_102 : decode cX7_set 102 = .ok (.if_icmp .ge 11, 3) := by decide +kernel
theorem dX7_set_105 : decode cX7_set 105 = .ok (.aload_n 0, 1) := by decide +kernel
theorem dX7_set_106 : decode cX7_set 106 = .ok (.iload 6, 2) := by decide +kernel
theorem dX7_set_108 : decode cX7_set 108 = .ok (.putfield 108, 3) := by decide +kernel
theorem dX7_set_111 : decode cX7_set 111 = .ok (.iconst 0, 1) := by decide +kernel
theorem dX7_set_112 : decode cX7_set 112 = .ok (.ireturn, 1) := by decide +kernel
theorem dX7_set_113 : decode cX7_set 113 = .ok (.iload 4, 2) := by decide +kernel
theorem dX7_set_115 : decode cX7_set 115 = .ok (.istore 6, 2) := by decide +kernel
theorem dX7_set_117 : decode cX7_set 117 = .ok (.iload 6, 2) := by decide +kernel
theorem dX7_set_119 : decode cX7_set 119 = .ok (.iload 5, 2) := by decide +kernel
theorem dX7_set_121 : decode cX7_set 121 = .ok (.if_icmp .gt 16, 3) := by decide +kernel
theorem dX7_set_124 : decode cX7_set 124 = .ok (.aload_n 0, 1) := by decide +kernel
theorem dX7_set_125 : decode cX7_set 125 = .ok (.iload_n 1, 1) := by decide +kernel
theorem dX7_set_126 : decode cX7_set 126 = .ok (.iload 6, 2) := by decide +kernel
theorem dX7_set_128 : decode cX7_set 128 = .ok (.invokevirtual 148, 3) := by decide +kernel
theorem dX7_set_131 : decode cX7_set 131 = .ok (.iinc 6 1, 3) := by decide +kernel
theorem dX7_set_134 : decode cX7_set 134 = .ok (.goto (-17), 3) := by decide +kernel
theorem dX7_set_137 : decode cX7_set 137 = .ok (.aload_n 0, 1) := by decide +kernel
theorem dX7_set_138 : decode cX7_set 138 = .ok (.invokevirtual 137, 3) := by decide +kernel
theorem dX7_set_141 : decode cX7_set 141 = .ok (.bipush 93, 2) := by decide +kernel
theorem dX7_set_143 : decode cX7_set 143 = .ok (.if_icmp .eq 7, 3) := by decide +kernel
theorem dX7_set_146 : decode cX7_set 146 = .ok (.iconst 1, 1) := by decide +kernel
theorem dX7_set_147 : decode cX7_set 147 = .ok (.goto 4, 3) := by decide +kernel
theorem dX7_set_150 : decode cX7_set 150 = .ok (.iconst 0, 1) := by decide +kernel
theorem dX7_set_151 : decode cX7_set 151 = .ok (.istore_n 3, 1) := by decide +kernel
theorem dX7_set_152 : decode cX7_set 152 = .ok (.goto (-117), 3) := by decide +kernel
theorem dX7_set_155 : decode cX7_set 155 = .ok (.aload_n 0, 1) := by decide +kernel
theorem dX7_set_156 : decode cX7_set 156 = .ok (.dup, 1) := by decide +kernel
theorem dX7_set_157 : decode cX7_set 157 = .ok (.getfield 108, 3) := by decide +kernel
theorem dX7_set_160 : decode cX7_set 160 = .ok (.iconst 1, 1) := by decide +kernel
theorem dX7_set_161 : decode cX7_set 161 = .ok (.iadd, 1) := by decide +kernel
theorem dX7_set_162 : decode cX7_set 162 = .ok (.putfield 108, 3) := by decide +kernel
theorem dX7_set_165 : decode cX7_set 165 = .ok (.iconst 0, 1) := by decide +kernel
theorem dX7_set_166 : decode cX7_set 166 = .ok (.istore 4, 2) := by decide +kernel
theorem dX7_set_168 : decode cX7_set 168 = .ok (.iload 4, 2) := by decide +kernel
theorem dX7_set_170 : decode cX7_set 170 = .ok (.iconst 4, 1) := by decide +kernel
theorem dX7_set_171 : decode cX7_set 171 = .ok (.if_icmp .ge 39, 3) := by decide +kernel
theorem dX7_set_174 : decode cX7_set 174 = .ok (.iload_n 2, 1) := by decide +kernel
theorem dX7_set_175 : decode cX7_set 175 = .ok (.ifCond .eq 35, 3) := by decide +kernel
theorem dX7_set_178 : decode cX7_set 178 = .ok (.aload_n 0, 1) := by decide +kernel
theorem dX7_set_179 : decode cX7_set 179 = .ok (.getfield 48, 3) := by decide +kernel
theorem dX7_set_182 : decode cX7_set 182 = .ok (.iconst 4, 1) := by decide +kernel
theorem dX7_set_183 : decode cX7_set 183 = .ok (.iload_n 1, 1) := by decide +kernel
theorem dX7_set_184 : decode cX7_set 184 = .ok (.imul, 1) := by decide +kernel
theorem dX7_set_185 : decode cX7_set 185 = .ok (.iload 4, 2) := by decide +kernel
theorem dX7_set_187 : decode cX7_set 187 = .ok (.iadd, 1) := by decide +kernel
theorem dX7_set_188 : decode cX7_set 188 = .ok (.aload_n 0, 1) := by decide +kernel
theorem dX7_set_189 : decode cX7_set 189 = .ok (.getfield 48, 3) := by decide +kernel
theorem dX7_set_192 : decode cX7_set 192 = .ok (.iconst 4, 1) := by decide +kernel
theorem dX7_set_193 : decode cX7_set 193 = .ok (.iload_n 1, 1) := by decide +kernel
theorem dX7_set_194 : decode cX7_set 194 = .ok (.imul, 1) := by decide +kernel
theorem dX7_set_195 : decode cX7_set 195 = .ok (.iload 4, 2) := by decide +kernel
theorem dX7_set_197 : decode cX7_set 197 = .ok (.iadd, 1) := by decide +kernel
theorem dX7_set_198 : decode cX7_set 198 = .ok (.laload, 1) := by decide +kernel
theorem dX7_set_199 : decode cX7_set 199 = .ok (.ldc2_w 152, 3) := by decide +kernel
theorem dX7_set_202 : decode cX7_set 202 = .ok (.lxor, 1) := by decide +kernel
theorem dX7_set_203 : decode cX7_set 203 = .ok (.lastore, 1) := by decide +kernel
theorem dX7_set_204 : decode cX7_set 204 = .ok (.iinc 4 1, 3) := by decide +kernel
theorem dX7_set_207 : decode cX7_set 207 = .ok (.goto (-39), 3) := by decide +kernel
theorem dX7_set_210 : decode cX7_set 210 = .ok (.iconst 1, 1) := by decide +kernel
theorem dX7_set_211 : decode cX7_set 211 = .ok (.ireturn, 1) := by decide +kernel
theorem dX7_plain_0 : decode cX7_plain 0 = .ok (.aload_n 0, 1) := by decide +kernel
theorem dX7_plain_1 : decode cX7_plain 1 = .ok (.getfield 121, 3) := by decide +kernel
theorem dX7_plain_4 : decode cX7_plain 4 = .ok (.bipush 60, 2) := by decide +kernel
theorem dX7_plain_6 : decode cX7_plain 6 = .ok (.if_icmp .eq 39, 3) := by decide +kernel
theorem dX7_plain_9 : decode cX7_plain 9 = .ok (.iload_n 1, 1) := by decide +kernel
theorem dX7_plain_10 : decode cX7_plain 10 = .ok (.bipush 124, 2) := by decide +kernel
theorem dX7_plain_12 : decode cX7_plain 12 = .ok (.if_icmp .eq 33, 3) := by decide +kernel
theorem dX7_plain_15 : decode cX7_plain 15 = .ok (.iload_n 1, 1) := by decide +kernel
theorem dX7_plain_16 : decode cX7_plain 16 = .ok (.bipush 42, 2) := by decide +kernel
theorem dX7_plain_18 : decode cX7_plain 18 = .ok (.if_icmp .eq 27, 3) := by decide +kernel
theorem dX7_plain_21 : decode cX7_plain 21 = .ok (.iload_n 1, 1) := by decide +kernel
theorem dX7_plain_22 : decode cX7_plain 22 = .ok (.bipush 43, 2) := by decide +kernel
theorem dX7_plain_24 : decode cX7_plain 24 = .ok (.if_icmp .eq 21, 3) := by decide +kernel
theorem dX7_plain_27 : decode cX7_plain 27 = .ok (.iload_n 1, 1) := by decide +kernel
theorem dX7_plain_28 : decode cX7_plain 28 = .ok (.bipush 63, 2) := by decide +kernel
theorem dX7_plain_30 : decode cX7_plain 30 = .ok (.if_icmp .eq 15, 3) := by decide +kernel
theorem dX7_plain_33 : decode cX7_plain 33 = .ok (.iload_n 1, 1) := by decide +kernel
theorem dX7_plain_34 : decode cX7_plain 34 = .ok (.bipush 93, 2) := by decide +kernel
theorem dX7_plain_36 : decode cX7_plain 36 = .ok (.if_icmp .eq 9, 3) := by decide +kernel
theorem dX7_plain_39 : decode cX7_plain 39 = .ok (.iload_n 1, 1) := by decide +kernel
theorem dX7_plain_40 : decode cX7_plain 40 = .ok (.bipush 41, 2) := by decide +kernel
theorem dX7_plain_42 : decode cX7_plain 42 = .ok (.if_icmp .ne 5, 3) := by decide +kernel
theorem dX7_plain_45 : decode cX7_plain 45 = .ok (.iconst 0, 1) := by decide +kernel
theorem dX7_plain_46 : decode cX7_plain 46 = .ok (.ireturn, 1) := by decide +kernel
theorem dX7_plain_47 : decode cX7_plain 47 = .ok (.aload_n 0, 1) := by decide +kernel
theorem dX7_plain_48 : decode cX7_plain 48 = .ok (.getfield 121, 3) := by decide +kernel
theorem dX7_plain_51 : decode cX7_plain 51 = .ok (.istore_n 2, 1) := by decide +kernel
theorem dX7_plain_52 : decode cX7_plain 52 = .ok (.aload_n 0, 1) := by decide +kernel
theorem dX7_plain_53 : decode cX7_plain 53 = .ok (.invokevirtual 154, 3) := by decide +kernel
theorem dX7_plain_56 : decode cX7_plain 56 = .ok (.aload_n 0, 1) := by decide +kernel
theorem dX7_plain_57 : decode cX7_plain 57 = .ok (.dup, 1) := by decide +kernel
theorem dX7_plain_58 : decode cX7_plain 58 = .ok (.getfield 108, 3) := by decide +kernel
theorem dX7_plain_61 : decode cX7_plain 61 = .ok (.iconst 1, 1) := by decide +kernel
theorem dX7_plain_62 : decode cX7_plain 62 = .ok (.iadd, 1) := by decide +kernel
theorem dX7_plain_63 : decode cX7_plain 63 = .ok (.putfield 108, 3) := by decide +kernel
theorem dX7_plain_66 : decode cX7_plain 66 = .ok (.iload_n 1, 1) := by decide +kernel
theorem dX7_plain_67 : decode cX7_plain 67 = .ok (.bipush 91, 2) := by decide +kernel
theorem dX7_plain_69 : decode cX7_plain 69 = .ok (.if_icmp .ne 13, 3) := by decide +kernel
theorem dX7_plain_72 : decode cX7_plain 72 = .ok (.aload_n 0, 1) := by decide +kernel
theorem dX7_plain_73 : decode cX7_plain 73 = .ok (.iload_n 2, 1) := by decide +kernel
theorem dX7_plain_74 : decode cX7_plain 74 = .ok (.invokevirtual 157, 3) := by decide +kernel
theorem dX7_plain_77 : decode cX7_plain 77 = .ok (.ifCond .ne 85, 3) := by decide +kernel
theorem dX7_plain_80 : decode cX7_plain 80 = .ok (.iconst 0, 1) := by decide +kernel
theorem dX7_plain_81 : decode cX7_plain 81 = .ok (.ireturn, 1) := by decide +kernel
theorem dX7_plain_82 : decode cX7_plain 82 = .ok (.iload_n 1, 1) := by decide +kernel
theorem dX7_plain_83 : decode cX7_plain 83 = .ok (.bipush 46, 2) := by decide +kernel
theorem dX7_plain_85 : decode cX7_plain 85 = .ok (.if_icmp .ne 34, 3) := by decide +kernel
theorem dX7_plain_88 : decode cX7_plain 88 = .ok (.iconst 0, 1) := by decide +kernel
theorem dX7_plain_89 : decode cX7_plain 89 = .ok (.istore_n 3, 1) := by decide +kernel
theorem dX7_plain_90 : decode cX7_plain 90 = .ok (.iload_n 3, 1) := by decide +kernel
theorem dX7_plain_91 : decode cX7_plain 91 = .ok (.sipush 256, 3) := by decide +kernel
theorem dX7_plain_94 : decode cX7_plain 94 = .ok (.if_icmp .ge 22, 3) := by decide +kernel
theorem dX7_plain_97 : decode cX7_plain 97 = .ok (.iload_n 3, 1) := by decide +kernel
theorem dX7_plain_98 : decode cX7_plain 98 = .ok (.invokestatic 96, 3) := by decide +kernel
theorem dX7_plain_101 : decode cX7_plain 101 = .ok (.ifCond .ne 9, 3) := by decide +kernel
theorem dX7_plain_104 : decode cX7_plain 104 = .ok (.aload_n 0, 1) := by decide +kernel
theorem dX7_plain_105 : decode cX7_plain 105 = .ok (.iload_n 2, 1) := by decide +kernel
theorem dX7_plain_106 : decode cX7_plain 106 = .ok (.iload_n 3, 1) := by decide +kernel
theorem dX7_plain_107 : decode cX7_plain 107 = .ok (.invokevirtual 148, 3) := by decide +kernel
theorem dX7_plain_110 : decode cX7_plain 110 = .ok (.iinc 3 1, 3) := by decide +kernel
theorem dX7_plain_113 : decode cX7_plain 113 = .ok (.goto (-23), 3) := by decide +kernel
theorem dX7_plain_116 : decode cX7_plain 116 = .ok (.goto 46, 3) := by decide +kernel
theorem dX7_plain_119 : decode cX7_plain 119 = .ok (.iload_n 1, 1) := by decide +kernel
theorem dX7_plain_120 : decode cX7_plain 120 = .ok (.bipush 92, 2) := by decide +kernel
theorem dX7_plain_122 : decode cX7_plain 122 = .ok (.if_icmp .ne 34, 3) := by decide +kernel
theorem dX7_plain_125 : decode cX7_plain 125 = .ok (.aload_n 0, 1) := by decide +kernel
theorem dX7_plain_126 : decode cX7_plain 126 = .ok (.invokevirtual 137, 3) := by decide +kernel
theorem dX7_plain_129 : decode cX7_plain 129 = .ok (.ifCond .ge 5, 3) := by decide +kernel
theorem dX7_plain_132 : decode cX7_plain 132 = .ok (.iconst 0, 1) := by decide +kernel
theorem dX7_plain_133 : decode cX7_plain 133 = .ok (.ireturn, 1) := by decide +kernel
theorem dX7_plain_134 : decode cX7_plain 134 = .ok (.aload_n 0, 1) := by decide +kernel
theorem dX7_plain_135 : decode cX7_plain 135 = .ok (.iload_n 2, 1) := by decide +kernel
theorem dX7_plain_136 : decode cX7_plain 136 = .ok (.aload_n 0, 1) := by decide +kernel
theorem dX7_plain_137 : decode cX7_plain 137 = .ok (.invokevirtual 137, 3) := by decide +kernel
theorem dX7_plain_140 : decode cX7_plain 140 = .ok (.invokevirtual 148, 3) := by decide +kernel
theorem dX7_plain_143 : decode cX7_plain 143 = .ok (.aload_n 0, 1) := by decide +kernel
theorem dX7_plain_144 : decode cX7_plain 144 = .ok (.dup, 1) := by decide +kernel
theorem dX7_plain_145 : decode cX7_plain 145 = .ok (.getfield 108, 3) := by decide +kernel
theorem dX7_plain_148 : decode cX7_plain 148 = .ok (.iconst 1, 1) := by decide +kernel
theorem dX7_plain_149 : decode cX7_plain 149 = .ok (.iadd, 1) := by decide +kernel
theorem dX7_plain_150 : decode cX7_plain 150 = .ok (.putfield 108, 3) := by decide +kernel
theorem dX7_plain_153 : decode cX7_plain 153 = .ok (.goto 9, 3) := by decide +kernel
theorem dX7_plain_156 : decode cX7_plain 156 = .ok (.aload_n 0, 1) := by decide +kernel
theorem dX7_plain_157 : decode cX7_plain 157 = .ok (.iload_n 2, 1) := by decide +kernel
theorem dX7_plain_158 : decode cX7_plain 158 = .ok (.iload_n 1, 1) := by decide +kernel
theorem dX7_plain_159 : decode cX7_plain 159 = .ok (.invokevirtual 148, 3) := by decide +kernel
theorem dX7_plain_162 : decode cX7_plain 162 = .ok (.aload_n 0, 1) := by decide +kernel
theorem dX7_plain_163 : decode cX7_plain 163 = .ok (.iconst 0, 1) := by decide +kernel
theorem dX7_plain_164 : decode cX7_plain 164 = .ok (.lconst 1, 1) := by decide +kernel
theorem dX7_plain_165 : decode cX7_plain 165 = .ok (.iload_n 2, 1) := by decide +kernel
theorem dX7_plain_166 : decode cX7_plain 166 = .ok (.lshl, 1) := by decide +kernel
theorem dX7_plain_167 : decode cX7_plain 167 = .ok (.lconst 1, 1) := by decide +kernel
theorem dX7_plain_168 : decode cX7_plain 168 = .ok (.iload_n 2, 1) := by decide +kernel
theorem dX7_plain_169 : decode cX7_plain 169 = .ok (.lshl, 1) := by decide +kernel
theorem dX7_plain_170 : decode cX7_plain 170 = .ok (.invokevirtual 160, 3) := by decide +kernel
theorem dX7_plain_173 : decode cX7_plain 173 = .ok (.iconst 1, 1) := by decide +kernel
theorem dX7_plain_174 : decode cX7_plain 174 = .ok (.ireturn, 1) := by decide +kernel
theorem dX7_reads_0 : decode cX7_reads 0 = .ok (.aload_n 0, 1) := by decide +kernel
theorem dX7_reads_1 : decode cX7_reads 1 = .ok (.iconst 0, 1) := by decide +kernel
theorem dX7_reads_2 : decode cX7_reads 2 = .ok (.putfield 121, 3) := by decide +kernel
theorem dX7_reads_5 : decode cX7_reads 5 = .ok (.aload_n 0, 1) := by decide +kernel
theorem dX7_reads_6 : decode cX7_reads 6 = .ok (.iconst 0, 1) := by decide +kernel
theorem dX7_reads_7 : decode cX7_reads 7 = .ok (.putfield 111, 3) := by decide +kernel
theorem dX7_reads_10 : decode cX7_reads 10 = .ok (.aload_n 0, 1) := by decide +kernel
theorem dX7_reads_11 : decode cX7_reads 11 = .ok (.iconst 0, 1) := by decide +kernel
theorem dX7_reads_12 : decode cX7_reads 12 = .ok (.putfield 108, 3) := by decide +kernel
theorem dX7_reads_15 : decode cX7_reads 15 = .ok (.aload_n 0, 1) := by decide +kernel
theorem dX7_reads_16 : decode cX7_reads 16 = .ok (.invokevirtual 164, 3) := by decide +kernel
theorem dX7_reads_19 : decode cX7_reads 19 = .ok (.aload_n 0, 1) := by decide +kernel
theorem dX7_reads_20 : decode cX7_reads 20 = .ok (.getfield 108, 3) := by decide +kernel
theorem dX7_reads_23 : decode cX7_reads 23 = .ok (.aload_n 0, 1) := by decide +kernel
theorem dX7_reads_24 : decode cX7_reads 24 = .ok (.getfield 99, 3) := by decide +kernel
theorem dX7_reads_27 : decode cX7_reads 27 = .ok (.if_icmp .ge 300, 3) := by decide +kernel
theorem dX7_reads_30 : decode cX7_reads 30 = .ok (.aload_n 0, 1) := by decide +kernel
theorem dX7_reads_31 : decode cX7_reads 31 = .ok (.invokevirtual 137, 3) := by decide +kernel
theorem dX7_reads_34 : decode cX7_reads 34 = .ok (.istore_n 1, 1) := by decide +kernel
theorem dX7_reads_35 : decode cX7_reads 35 = .ok (.iload_n 1, 1) := by decide +kernel
theorem dX7_reads_36 : decode cX7_reads 36 = .ok (.bipush 42, 2) := by decide +kernel
theorem dX7_reads_38 : decode cX7_reads 38 = .ok (.if_icmp .eq 15, 3) := by decide +kernel
theorem dX7_reads_41 : decode cX7_reads 41 = .ok (.iload_n 1, 1) := by decide +kernel
theorem dX7_reads_42 : decode cX7_reads 42 = .ok (.bipush 43, 2) := by decide +kernel
theorem dX7_reads_44 : decode cX7_reads 44 = .ok (.if_icmp .eq 9, 3) := by decide +kernel
theorem dX7_reads_47 : decode cX7_reads 47 = .ok (.iload_n 1, 1) := by decide +kernel
theorem dX7_reads_48 : decode cX7_reads 48 = .ok (.bipush 63, 2) := by decide +kernel
theorem dX7_reads_50 : decode cX7_reads 50 = .ok (.if_icmp .ne 99, 3) := by decide +kernel
theorem dX7_reads_53 : decode cX7_reads 53 = .ok (.aload_n 0, 1) := by decide +kernel
theorem dX7_reads_54 : decode cX7_reads 54 = .ok (.getfield 117, 3) := by decide +kernel
theorem dX7_reads_57 : decode cX7_reads 57 = .ok (.ifCond .eq 92, 3) := by decide +kernel
theorem dX7_reads_60 : decode cX7_reads 60 = .ok (.iconst 0, 1) := by decide +kernel
theorem dX7_reads_61 : decode cX7_reads 61 = .ok (.istore_n 2, 1) := by decide +kernel
theorem dX7_reads_62 : decode cX7_reads 62 = .ok (.iload_n 2, 1) := by decide +kernel
theorem dX7_reads_63 : decode cX7_reads 63 = .ok (.aload_n 0, 1) := by decide +kernel
theorem dX7_reads_64 : decode cX7_reads 64 = .ok (.getfield 121, 3) := by decide +kernel
theorem dX7_reads_67 : decode cX7_reads 67 = .ok (.if_icmp .ge 45, 3) := by decide +kernel
theorem dX7_reads_70 : decode cX7_reads 70 = .ok (.iload_n 1, 1) := by decide +kernel
theorem dX7_reads_71 : decode cX7_reads 71 = .ok (.bipush 63, 2) := by decide +kernel
theorem dX7_reads_73 : decode cX7_reads 73 = .ok (.if_icmp .eq 39, 3) := by decide +kernel
theorem dX7_reads_76 : decode cX7_reads 76 = .ok (.aload_n 0, 1) := by decide +kernel
theorem dX7_reads_77 : decode cX7_reads 77 = .ok (.getfield 51, 3) := by decide +kernel
theorem dX7_reads_80 : decode cX7_reads 80 = .ok (.iload_n 2, 1) := by decide +kernel
theorem dX7_reads_81 : decode cX7_reads 81 = .ok (.dup2, 1) := by decide +kernel
theorem dX7_reads_82 : decode cX7_reads 82 = .ok (.laload, 1) := by decide +kernel
theorem dX7_reads_83 : decode cX7_reads 83 = .ok (.aload_n 0, 1) := by decide +kernel
theorem dX7_reads_84 : decode cX7_reads 84 = .ok (.getfield 131, 3) := by decide +kernel
theorem dX7_reads_87 : decode cX7_reads 87 = .ok (.iload_n 2, 1) := by decide +kernel
theorem dX7_reads_88 : decode cX7_reads 88 = .ok (.lshr, 1) := by decide +kernel
theorem dX7_reads_89 : decode cX7_reads 89 = .ok (.lconst 1, 1) := by decide +kernel
theorem dX7_reads_90 : decode cX7_reads 90 = .ok (.land, 1) := by decide +kernel
theorem dX7_reads_91 : decode cX7_reads 91 = .ok (.lconst 1, 1) := by decide +kernel
theorem dX7_reads_92 : decode cX7_reads 92 = .ok (.lcmp, 1) := by decide +kernel
theorem dX7_reads_93 : decode cX7_reads 93 = .ok (.ifCond .ne 10, 3) := by decide +kernel
theorem dX7_reads_96 : decode cX7_reads 96 = .ok (.aload_n 0, 1) := by decide +kernel
theorem dX7_reads_97 : decode cX7_reads 97 = .ok (.getfield 124, 3) := by decide +kernel
theorem dX7_reads_100 : decode cX7_reads 100 = .ok (.goto 4, 3) := by decide +kernel
theorem dX7_reads_103 : decode cX7_reads 103 = .ok (.lconst 0, 1) := by decide +kernel
theorem dX7_reads_104 : decode cX7_reads 104 = .ok (.lor, 1) := by decide +kernel
theorem dX7_reads_105 : decode cX7_reads 105 = .ok (.lastore, 1) := by decide +kernel
theorem dX7_reads_106 : decode cX7_reads 106 = .ok (.iinc 2 1, 3) := by decide +kernel
theorem dX7_reads_109 : decode cX7_reads 109 = .ok (.goto (-47), 3) := by decide +kernel
theorem dX7_reads_112 : decode cX7_reads 112 = .ok (.aload_n 0, 1) := by decide +kernel
theorem dX7_reads_113 : decode cX7_reads 113 = .ok (.dup, 1) := by decide +kernel
theorem dX7_reads_114 : decode cX7_reads 114 = .ok (.getfield 128, 3) := by decide +kernel
theorem dX7_reads_117 : decode cX7_reads 117 = .ok (.iload_n 1, 1) := by decide +kernel
theorem dX7_reads_118 : decode cX7_reads 118 = .ok (.bipush 43, 2) := by decide +kernel
theorem dX7_reads_120 : decode cX7_reads 120 = .ok (.if_icmp .eq 7, 3) := by decide +kernel
theorem dX7_reads_123 : decode cX7_reads 123 = .ok (.iconst 1, 1) := by decide +kernel
theorem dX7_reads_124 : decode cX7_reads 124 = .ok (.goto 4, 3) := by decide +kernel
theorem dX7_reads_127 : decode cX7_reads 127 = .ok (.iconst 0, 1) := by decide +kernel
theorem dX7_reads_128 : decode cX7_reads 128 = .ok (.ior, 1) := by decide +kernel
theorem dX7_reads_129 : decode cX7_reads 129 = .ok (.putfield 128, 3) := by decide +kernel
theorem dX7_reads_132 : decode cX7_reads 132 = .ok (.aload_n 0, 1) := by decide +kernel
theorem dX7_reads_133 : decode cX7_reads 133 = .ok (.invokevirtual 134, 3) := by decide +kernel
theorem dX7_reads_136 : decode cX7_reads 136 = .ok (.aload_n 0, 1) := by decide +kernel
theorem dX7_reads_137 : decode cX7_reads 137 = .ok (.dup, 1) := by decide +kernel
theorem dX7_reads_138 : decode cX7_reads 138 = .ok (.getfield 108, 3) := by decide +kernel
theorem dX7_reads_141 : decode cX7_reads 141 = .ok (.iconst 1, 1) := by decide +kernel
theorem dX7_reads_142 : decode cX7_reads 142 = .ok (.iadd, 1) := by decide +kernel
theorem dX7_reads_143 : decode cX7_reads 143 = .ok (.putfield 108, 3) := by decide +kernel
theorem dX7_reads_146 : decode cX7_reads 146 = .ok (.goto 178, 3) := by decide +kernel
theorem dX7_reads_149 : decode cX7_reads 149 = .ok (.iload_n 1, 1) := by decide +kernel
theorem dX7_reads_150 : decode cX7_reads 150 = .ok (.bipush 124, 2) := by decide +kernel
theorem dX7_reads_152 : decode cX7_reads 152 = .ok (.if_icmp .ne 24, 3) := by decide +kernel
theorem dX7_reads_155 : decode cX7_reads 155 = .ok (.aload_n 0, 1) := by decide +kernel
theorem dX7_reads_156 : decode cX7_reads 156 = .ok (.invokevirtual 167, 3) := by decide +kernel
theorem dX7_reads_159 : decode cX7_reads 159 = .ok (.aload_n 0, 1) := by decide +kernel
theorem dX7_reads_160 : decode cX7_reads 160 = .ok (.invokevirtual 114, 3) := by decide +kernel
theorem dX7_reads_163 : decode cX7_reads 163 = .ok (.aload_n 0, 1) := by decide +kernel
theorem dX7_reads_164 : decode cX7_reads 164 = .ok (.dup, 1) := by decide +kernel
theorem dX7_reads_165 : decode cX7_reads 165 = .ok (.getfield 108, 3) := by decide +kernel
theorem dX7_reads_168 : decode cX7_reads 168 = .ok (.iconst 1, 1) := by decide +kernel
theorem dX7_reads_169 : decode cX7_reads 169 = .ok (.iadd, 1) := by decide +kernel
theorem dX7_reads_170 : decode cX7_reads 170 = .ok (.putfield 108, 3) := by decide +kernel
theorem dX7_reads_173 : decode cX7_reads 173 = .ok (.goto 151, 3) := by decide +kernel
theorem dX7_reads_176 : decode cX7_reads 176 = .ok (.iload_n 1, 1) := by decide +kernel
theorem dX7_reads_177 : decode cX7_reads 177 = .ok (.bipush 40, 2) := by decide +kernel
theorem dX7_reads_179 : decode cX7_reads 179 = .ok (.if_icmp .ne 45, 3) := by decide +kernel
theorem dX7_reads_182 : decode cX7_reads 182 = .ok (.aload_n 0, 1) := by decide +kernel
theorem dX7_reads_183 : decode cX7_reads 183 = .ok (.getfield 111, 3) := by decide +kernel
theorem dX7_reads_186 : decode cX7_reads 186 = .ok (.bipush 8, 2) := by decide +kernel
theorem dX7_reads_188 : decode cX7_reads 188 = .ok (.if_icmp .ne 5, 3) := by decide +kernel
theorem dX7_reads_191 : decode cX7_reads 191 = .ok (.iconst 0, 1) := by decide +kernel
theorem dX7_reads_192 : decode cX7_reads 192 = .ok (.ireturn, 1) := by decide +kernel
theorem dX7_reads_193 : decode cX7_reads 193 = .ok (.aload_n 0, 1) := by decide +kernel
theorem dX7_reads_194 : decode cX7_reads 194 = .ok (.invokevirtual 134, 3) := by decide +kernel
theorem dX7_reads_197 : decode cX7_reads 197 = .ok (.aload_n 0, 1) := by decide +kernel
theorem dX7_reads_198 : decode cX7_reads 198 = .ok (.dup, 1) := by decide +kernel
theorem dX7_reads_199 : decode cX7_reads 199 = .ok (.getfield 111, 3) := by decide +kernel
theorem dX7_reads_202 : decode cX7_reads 202 = .ok (.iconst 1, 1) := by decide +kernel
theorem dX7_reads_203 : decode cX7_reads 203 = .ok (.iadd, 1) := by decide +kernel
theorem dX7_reads_204 : decode cX7_reads 204 = .ok (.putfield 111, 3) := by decide +kernel
theorem dX7_reads_207 : decode cX7_reads 207 = .ok (.aload_n 0, 1) := by decide +kernel
theorem dX7_reads_208 : decode cX7_reads 208 = .ok (.invokevirtual 164, 3) := by decide +kernel
theorem dX7_reads_211 : decode cX7_reads 211 = .ok (.aload_n 0, 1) := by decide +kernel
theorem dX7_reads_212 : decode cX7_reads 212 = .ok (.dup, 1) := by decide +kernel
theorem dX7_reads_213 : decode cX7_reads 213 = .ok (.getfield 108, 3) := by decide +kernel
theorem dX7_reads_216 : decode cX7_reads 216 = .ok (.iconst 1, 1) := by decide +kernel
theorem dX7_reads_217 : decode cX7_reads 217 = .ok (.iadd, 1) := by decide +kernel
theorem dX7_reads_218 : decode cX7_reads 218 = .ok (.putfield 108, 3) := by decide +kernel
theorem dX7_reads_221 : decode cX7_reads 221 = .ok (.goto 103, 3) := by decide +kernel
theorem dX7_reads_224 : decode cX7_reads 224 = .ok (.iload_n 1, 1) := by decide +kernel
theorem dX7_reads_225 : decode cX7_reads 225 = .ok (.bipush 41, 2) := by decide +kernel
theorem dX7_reads_227 : decode cX7_reads 227 = .ok (.if_icmp .ne 87, 3) := by decide +kernel
theorem dX7_reads_230 : decode cX7_reads 230 = .ok (.aload_n 0, 1) := by decide +kernel
theorem dX7_reads_231 : decode cX7_reads 231 = .ok (.getfield 111, 3) := by decide +kernel
theorem dX7_reads_234 : decode cX7_reads 234 = .ok (.ifCond .le 80, 3) := by decide +kernel
theorem dX7_reads_237 : decode cX7_reads 237 = .ok (.aload_n 0, 1) := by decide +kernel
theorem dX7_reads_238 : decode cX7_reads 238 = .ok (.invokevirtual 167, 3) := by decide +kernel
theorem dX7_reads_241 : decode cX7_reads 241 = .ok (.aload_n 0, 1) := by decide +kernel
theorem dX7_reads_242 : decode cX7_reads 242 = .ok (.dup, 1) := by decide +kernel
theorem dX7_reads_243 : decode cX7_reads 243 = .ok (.getfield 111, 3) := by decide +kernel
theorem dX7_reads_246 : decode cX7_reads 246 = .ok (.iconst 1, 1) := by decide +kernel
theorem dX7_reads_247 : decode cX7_reads 247 = .ok (.isub, 1) := by decide +kernel
theorem dX7_reads_248 : decode cX7_reads 248 = .ok (.putfield 111, 3) := by decide +kernel
theorem dX7_reads_251 : decode cX7_reads 251 = .ok (.aload_n 0, 1) := by decide +kernel
theorem dX7_reads_252 : decode cX7_reads 252 = .ok (.iconst 1, 1) := by decide +kernel
theorem dX7_reads_253 : decode cX7_reads 253 = .ok (.putfield 117, 3) := by decide +kernel
theorem dX7_reads_256 : decode cX7_reads 256 = .ok (.aload_n 0, 1) := by decide +kernel
theorem dX7_reads_257 : decode cX7_reads 257 = .ok (.aload_n 0, 1) := by decide +kernel
theorem dX7_reads_258 : decode cX7_reads 258 = .ok (.getfield 54, 3) := by decide +kernel
theorem dX7_reads_261 : decode cX7_reads 261 = .ok (.aload_n 0, 1) := by decide +kernel
theorem dX7_reads_262 : decode cX7_reads 262 = .ok (.getfield 111, 3) := by decide +kernel
theorem dX7_reads_265 : decode cX7_reads 265 = .ok (.iconst 1, 1) := by decide +kernel
theorem dX7_reads_266 : decode cX7_reads 266 = .ok (.iadd, 1) := by decide +kernel
theorem dX7_reads_267 : decode cX7_reads 267 = .ok (.baload, 1) := by decide +kernel
theorem dX7_reads_268 : decode cX7_reads 268 = .ok (.putfield 128, 3) := by decide +kernel
theorem dX7_reads_271 : decode cX7_reads 271 = .ok (.aload_n 0, 1) := by decide +kernel
theorem dX7_reads_272 : decode cX7_reads 272 = .ok (.aload_n 0, 1) := by decide +kernel
theorem dX7_reads_273 : decode cX7_reads 273 = .ok (.getfield 61, 3) := by decide +kernel
theorem dX7_reads_276 : decode cX7_reads 276 = .ok (.aload_n 0, 1) := by decide +kernel
theorem dX7_reads_277 : decode cX7_reads 277 = .ok (.getfield 111, 3) := by decide +kernel
theorem dX7_reads_280 : decode cX7_reads 280 = .ok (.iconst 1, 1) := by decide +kernel
theorem dX7_reads_281 : decode cX7_reads 281 = .ok (.iadd, 1) := by decide +kernel
theorem dX7_reads_282 : decode cX7_reads 282 = .ok (.laload, 1) := by decide +kernel
theorem dX7_reads_283 : decode cX7_reads 283 = .ok (.putfield 124, 3) := by decide +kernel
theorem dX7_reads_286 : decode cX7_reads 286 = .ok (.aload_n 0, 1) := by decide +kernel
theorem dX7_reads_287 : decode cX7_reads 287 = .ok (.aload_n 0, 1) := by decide +kernel
theorem dX7_reads_288 : decode cX7_reads 288 = .ok (.getfield 64, 3) := by decide +kernel
theorem dX7_reads_291 : decode cX7_reads 291 = .ok (.aload_n 0, 1) := by decide +kernel
theorem dX7_reads_292 : decode cX7_reads 292 = .ok (.getfield 111, 3) := by decide +kernel
theorem dX7_reads_295 : decode cX7_reads 295 = .ok (.iconst 1, 1) := by decide +kernel
theorem dX7_reads_296 : decode cX7_reads 296 = .ok (.iadd, 1) := by decide +kernel
theorem dX7_reads_297 : decode cX7_reads 297 = .ok (.laload, 1) := by decide +kernel
theorem dX7_reads_298 : decode cX7_reads 298 = .ok (.putfield 131, 3) := by decide +kernel
theorem dX7_reads_301 : decode cX7_reads 301 = .ok (.aload_n 0, 1) := by decide +kernel
theorem dX7_reads_302 : decode cX7_reads 302 = .ok (.dup, 1) := by decide +kernel
theorem dX7_reads_303 : decode cX7_reads 303 = .ok (.getfield 108, 3) := by decide +kernel
theorem dX7_reads_306 : decode cX7_reads 306 = .ok (.iconst 1, 1) := by decide +kernel
theorem dX7_reads_307 : decode cX7_reads 307 = .ok (.iadd, 1) := by decide +kernel
theorem dX7_reads_308 : decode cX7_reads 308 = .ok (.putfield 108, 3) := by decide +kernel
theorem dX7_reads_311 : decode cX7_reads 311 = .ok (.goto 13, 3) := by decide +kernel
theorem dX7_reads_314 : decode cX7_reads 314 = .ok (.aload_n 0, 1) := by decide +kernel
theorem dX7_reads_315 : decode cX7_reads 315 = .ok (.iload_n 1, 1) := by decide +kernel
theorem dX7_reads_316 : decode cX7_reads 316 = .ok (.invokevirtual 170, 3) := by decide +kernel
theorem dX7_reads_319 : decode cX7_reads 319 = .ok (.ifCond .ne 5, 3) := by decide +kernel
theorem dX7_reads_322 : decode cX7_reads 322 = .ok (.iconst 0, 1) := by decide +kernel
theorem dX7_reads_323 : decode cX7_reads 323 = .ok (.ireturn, 1) := by decide +kernel
theorem dX7_reads_324 : decode cX7_reads 324 = .ok (.goto (-305), 3) := by decide +kernel
theorem dX7_reads_327 : decode cX7_reads 327 = .ok (.aload_n 0, 1) := by decide +kernel
theorem dX7_reads_328 : decode cX7_reads 328 = .ok (.invokevirtual 167, 3) := by decide +kernel
theorem dX7_reads_331 : decode cX7_reads 331 = .ok (.aload_n 0, 1) := by decide +kernel
theorem dX7_reads_332 : decode cX7_reads 332 = .ok (.getfield 111, 3) := by decide +kernel
theorem dX7_reads_335 : decode cX7_reads 335 = .ok (.ifCond .ne 7, 3) := by decide +kernel
theorem dX7_reads_338 : decode cX7_reads 338 = .ok (.iconst 1, 1) := by decide +kernel
theorem dX7_reads_339 : decode cX7_reads 339 = .ok (.goto 4, 3) := by decide +kernel
theorem dX7_reads_342 : decode cX7_reads 342 = .ok (.iconst 0, 1) := by decide +kernel
theorem dX7_reads_343 : decode cX7_reads 343 = .ok (.ireturn, 1) := by decide +kernel
theorem dX7_pattern_0 : decode cX7_pattern 0 = .ok (.aload_n 0, 1) := by decide +kernel
theorem dX7_pattern_1 : decode cX7_pattern 1 = .ok (.invokevirtual 173, 3) := by decide +kernel
theorem dX7_pattern_4 : decode cX7_pattern 4 = .ok (.istore_n 1, 1) := by decide +kernel
theorem dX7_pattern_5 : decode cX7_pattern 5 = .ok (.aload_n 0, 1) := by decide +kernel
theorem dX7_pattern_6 : decode cX7_pattern 6 = .ok (.iconst 0, 1) := by decide +kernel
theorem dX7_pattern_7 : decode cX7_pattern 7 = .ok (.putfield 99, 3) := by decide +kernel
theorem dX7_pattern_10 : decode cX7_pattern 10 = .ok (.iload_n 1, 1) := by decide +kernel
theorem dX7_pattern_11 : decode cX7_pattern 11 = .ok (.ifCond .ne 11, 3) := by decide +kernel
theorem dX7_pattern_14 : decode cX7_pattern 14 = .ok (.bipush (-10), 2) := by decide +kernel
theorem dX7_pattern_16 : decode cX7_pattern 16 = .ok (.aload_n 0, 1) := by decide +kernel
theorem dX7_pattern_17 : decode cX7_pattern 17 = .ok (.getfield 108, 3) := by decide +kernel
theorem dX7_pattern_20 : decode cX7_pattern 20 = .ok (.isub, 1) := by decide +kernel
theorem dX7_pattern_21 : decode cX7_pattern 21 = .ok (.ireturn, 1) := by decide +kernel
theorem dX7_pattern_22 : decode cX7_pattern 22 = .ok (.aload_n 0, 1) := by decide +kernel
theorem dX7_pattern_23 : decode cX7_pattern 23 = .ok (.aload_n 0, 1) := by decide +kernel
theorem dX7_pattern_24 : decode cX7_pattern 24 = .ok (.getfield 121, 3) := by decide +kernel
theorem dX7_pattern_27 : decode cX7_pattern 27 = .ok (.putfield 176, 3) := by decide +kernel
theorem dX7_pattern_30 : decode cX7_pattern 30 = .ok (.iconst 0, 1) := by decide +kernel
theorem dX7_pattern_31 : decode cX7_pattern 31 = .ok (.istore_n 2, 1) := by decide +kernel
theorem dX7_pattern_32 : decode cX7_pattern 32 = .ok (.iload_n 2, 1) := by decide +kernel
theorem dX7_pattern_33 : decode cX7_pattern 33 = .ok (.sipush 240, 3) := by decide +kernel
theorem dX7_pattern_36 : decode cX7_pattern 36 = .ok (.if_icmp .ge 21, 3) := by decide +kernel
theorem dX7_pattern_39 : decode cX7_pattern 39 = .ok (.aload_n 0, 1) := by decide +kernel
theorem dX7_pattern_40 : decode cX7_pattern 40 = .ok (.getfield 41, 3) := by decide +kernel
theorem dX7_pattern_43 : decode cX7_pattern 43 = .ok (.iload_n 2, 1) := by decide +kernel
theorem dX7_pattern_44 : decode cX7_pattern 44 = .ok (.aload_n 0, 1) := by decide +kernel
theorem dX7_pattern_45 : decode cX7_pattern 45 = .ok (.getfield 48, 3) := by decide +kernel
theorem dX7_pattern_48 : decode cX7_pattern 48 = .ok (.iload_n 2, 1) := by decide +kernel
theorem dX7_pattern_49 : decode cX7_pattern 49 = .ok (.laload, 1) := by decide +kernel
theorem dX7_pattern_50 : decode cX7_pattern 50 = .ok (.lastore, 1) := by decide +kernel
theorem dX7_pattern_51 : decode cX7_pattern 51 = .ok (.iinc 2 1, 3) := by decide +kernel
theorem dX7_pattern_54 : decode cX7_pattern 54 = .ok (.goto (-22), 3) := by decide +kernel
theorem dX7_pattern_57 : decode cX7_pattern 57 = .ok (.iconst 0, 1) := by decide +kernel
theorem dX7_pattern_58 : decode cX7_pattern 58 = .ok (.istore_n 2, 1) := by decide +kernel
theorem dX7_pattern_59 : decode cX7_pattern 59 = .ok (.iload_n 2, 1) := by decide +kernel
theorem dX7_pattern_60 : decode cX7_pattern 60 = .ok (.bipush 60, 2) := by decide +kernel
theorem dX7_pattern_62 : decode cX7_pattern 62 = .ok (.if_icmp .ge 21, 3) := by decide +kernel
theorem dX7_pattern_65 : decode cX7_pattern 65 = .ok (.aload_n 0, 1) := by decide +kernel
theorem dX7_pattern_66 : decode cX7_pattern 66 = .ok (.getfield 45, 3) := by decide +kernel
theorem dX7_pattern_69 : decode cX7_pattern 69 = .ok (.iload_n 2, 1) := by decide +kernel
theorem dX7_pattern_70 : decode cX7_pattern 70 = .ok (.aload_n 0, 1) := by decide +kernel
theorem dX7_pattern_71 : decode cX7_pattern 71 = .ok (.getfield 51, 3) := by decide +kernel
theorem dX7_pattern_74 : decode cX7_pattern 74 = .ok (.iload_n 2, 1) := by decide +kernel
theorem dX7_pattern_75 : decode cX7_pattern 75 = .ok (.laload, 1) := by decide +kernel
theorem dX7_pattern_76 : decode cX7_pattern 76 = .ok (.lastore, 1) := by decide +kernel
theorem dX7_pattern_77 : decode cX7_pattern 77 = .ok (.iinc 2 1, 3) := by decide +kernel
theorem dX7_pattern_80 : decode cX7_pattern 80 = .ok (.goto (-21), 3) := by decide +kernel
theorem dX7_pattern_83 : decode cX7_pattern 83 = .ok (.aload_n 0, 1) := by decide +kernel
theorem dX7_pattern_84 : decode cX7_pattern 84 = .ok (.aload_n 0, 1) := by decide +kernel
theorem dX7_pattern_85 : decode cX7_pattern 85 = .ok (.getfield 61, 3) := by decide +kernel
theorem dX7_pattern_88 : decode cX7_pattern 88 = .ok (.iconst 0, 1) := by decide +kernel
theorem dX7_pattern_89 : decode cX7_pattern 89 = .ok (.laload, 1) := by decide +kernel
theorem dX7_pattern_90 : decode cX7_pattern 90 = .ok (.putfield 179, 3) := by decide +kernel
theorem dX7_pattern_93 : decode cX7_pattern 93 = .ok (.aload_n 0, 1) := by decide +kernel
theorem dX7_pattern_94 : decode cX7_pattern 94 = .ok (.aload_n 0, 1) := by decide +kernel
theorem dX7_pattern_95 : decode cX7_pattern 95 = .ok (.getfield 64, 3) := by decide +kernel
theorem dX7_pattern_98 : decode cX7_pattern 98 = .ok (.iconst 0, 1) := by decide +kernel
theorem dX7_pattern_99 : decode cX7_pattern 99 = .ok (.laload, 1) := by decide +kernel
theorem dX7_pattern_100 : decode cX7_pattern 100 = .ok (.putfield 182, 3) := by decide +kernel
theorem dX7_pattern_103 : decode cX7_pattern 103 = .ok (.aload_n 0, 1) := by decide +kernel
theorem dX7_pattern_104 : decode cX7_pattern 104 = .ok (.getfield 176, 3) := by decide +kernel
theorem dX7_pattern_107 : decode cX7_pattern 107 = .ok (.ireturn, 1) := by decide +kernel
theorem dX7_matches_0 : decode cX7_matches 0 = .ok (.aload_n 0, 1) := by decide +kernel
theorem dX7_matches_1 : decode cX7_matches 1 = .ok (.getfield 179, 3) := by decide +kernel
theorem dX7_matches_4 : decode cX7_matches 4 = .ok (.lstore_n 2, 1) := by decide +kernel
theorem dX7_matches_5 : decode cX7_matches 5 = .ok (.iconst 0, 1) := by decide +kernel
theorem dX7_matches_6 : decode cX7_matches 6 = .ok (.istore 4, 2) := by decide +kernel
theorem dX7_matches_8 : decode cX7_matches 8 = .ok (.iload_n 1, 1) := by decide +kernel
theorem dX7_matches_9 : decode cX7_matches 9 = .ok (.istore 5, 2) := by decide +kernel
theorem dX7_matches_11 : decode cX7_matches 11 = .ok (.iload 5, 2) := by decide +kernel
theorem dX7_matches_13 : decode cX7_matches 13 = .ok (.aload_n 0, 1) := by decide +kernel
theorem dX7_matches_14 : decode cX7_matches 14 = .ok (.getfield 102, 3) := by decide +kernel
theorem dX7_matches_17 : decode cX7_matches 17 = .ok (.if_icmp .ge 137, 3) := by decide +kernel
theorem dX7_matches_20 : decode cX7_matches 20 = .ok (.lload_n 2, 1) := by decide +kernel
theorem dX7_matches_21 : decode cX7_matches 21 = .ok (.lconst 0, 1) := by decide +kernel
theorem dX7_matches_22 : decode cX7_matches 22 = .ok (.lcmp, 1) := by decide +kernel
theorem dX7_matches_23 : decode cX7_matches 23 = .ok (.ifCond .eq 131, 3) := by decide +kernel
theorem dX7_matches_26 : decode cX7_matches 26 = .ok (.lconst 0, 1) := by decide +kernel
theorem dX7_matches_27 : decode cX7_matches 27 = .ok (.lstore 6, 2) := by decide +kernel
theorem dX7_matches_29 : decode cX7_matches 29 = .ok (.lconst 0, 1) := by decide +kernel
theorem dX7_matches_30 : decode cX7_matches 30 = .ok (.lstore 8, 2) := by decide +kernel
theorem dX7_matches_32 : decode cX7_matches 32 = .ok (.iconst 0, 1) := by decide +kernel
theorem dX7_matches_33 : decode cX7_matches 33 = .ok (.istore 10, 2) := by decide +kernel
theorem dX7_matches_35 : decode cX7_matches 35 = .ok (.iload 10, 2) := by decide +kernel
theorem dX7_matches_37 : decode cX7_matches 37 = .ok (.aload_n 0, 1) := by decide +kernel
theorem dX7_matches_38 : decode cX7_matches 38 = .ok (.getfield 176, 3) := by decide +kernel
theorem dX7_matches_41 : decode cX7_matches 41 = .ok (.if_icmp .ge 79, 3) := by decide +kernel
theorem dX7_matches_44 : decode cX7_matches 44 = .ok (.lload_n 2, 1) := by decide +kernel
theorem dX7_matches_45 : decode cX7_matches 45 = .ok (.iload 10, 2) := by decide +kernel
theorem dX7_matches_47 : decode cX7_matches 47 = .ok (.lshr, 1) := by decide +kernel
theorem dX7_matches_48 : decode cX7_matches 48 = .ok (.lconst 1, 1) := by decide +kernel
theorem dX7_matches_49 : decode cX7_matches 49 = .ok (.land, 1) := by decide +kernel
theorem dX7_matches_50 : decode cX7_matches 50 = .ok (.lconst 1, 1) := by decide +kernel
theorem dX7_matches_51 : decode cX7_matches 51 = .ok (.lcmp, 1) := by decide +kernel
theorem dX7_matches_52 : decode cX7_matches 52 = .ok (.ifCond .ne 62, 3) := by decide +kernel
theorem dX7_matches_55 : decode cX7_matches 55 = .ok (.aload_n 0, 1) := by decide +kernel
theorem dX7_matches_56 : decode cX7_matches 56 = .ok (.getfield 41, 3) := by decide +kernel
theorem dX7_matches_59 : decode cX7_matches 59 = .ok (.iconst 4, 1) := by decide +kernel
theorem dX7_matches_60 : decode cX7_matches 60 = .ok (.iload 10, 2) := by decide +kernel
theorem dX7_matches_62 : decode cX7_matches 62 = .ok (.imul, 1) := by decide +kernel
theorem dX7_matches_63 : decode cX7_matches 63 = .ok (.aload_n 0, 1) := by decide +kernel
theorem dX7_matches_64 : decode cX7_matches 64 = .ok (.getfield 13, 3) := by decide +kernel
theorem dX7_matches_67 : decode cX7_matches 67 = .ok (.iload 5, 2) := by decide +kernel
theorem dX7_matches_69 : decode cX7_matches 69 = .ok (.iaload, 1) := by decide +kernel
theorem dX7_matches_70 : decode cX7_matches 70 = .ok (.bipush 64, 2) := by decide +kernel
theorem dX7_matches_72 : decode cX7_matches 72 = .ok (.idiv, 1) := by decide +kernel
theorem dX7_matches_73 : decode cX7_matches 73 = .ok (.iadd, 1) := by decide +kernel
theorem dX7_matches_74 : decode cX7_matches 74 = .ok (.laload, 1) := by decide +kernel
