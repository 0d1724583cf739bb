theorem dX7_judge_6 : decode cX7_judge 6 = .ok (.ifCond .ne 6, 3) := by decide +kernel
theorem dX7_judge_9 : decode cX7_judge 9 = .ok (.bipush (-2), 2) := by decide +kernel
theorem dX7_judge_11 : decode cX7_judge 11 = .ok (.ireturn, 1) := by decide +kernel
theorem dX7_judge_12 : decode cX7_judge 12 = .ok (.aload_n 0, 1) := by decide +kernel
theorem dX7_judge_13 : decode cX7_judge 13 = .ok (.iconst 0, 1) := by decide +kernel
theorem dX7_judge_14 : decode cX7_judge 14 = .ok (.invokevirtual 127, 3) := by decide +kernel
theorem dX7_judge_17 : decode cX7_judge 17 = .ok (.istore_n 2, 1) := by decide +kernel
theorem dX7_judge_18 : decode cX7_judge 18 = .ok (.iload_n 2, 1) := by decide +kernel
theorem dX7_judge_19 : decode cX7_judge 19 = .ok (.bipush (-5), 2) := by decide +kernel
theorem dX7_judge_21 : decode cX7_judge 21 = .ok (.if_icmp .eq 14, 3) := by decide +kernel
theorem dX7_judge_24 : decode cX7_judge 24 = .ok (.iload_n 2, 1) := by decide +kernel
theorem dX7_judge_25 : decode cX7_judge 25 = .ok (.bipush (-3), 2) := by decide +kernel
theorem dX7_judge_27 : decode cX7_judge 27 = .ok (.if_icmp .ne 10, 3) := by decide +kernel
theorem dX7_judge_30 : decode cX7_judge 30 = .ok (.iload_n 1, 1) := by decide +kernel
theorem dX7_judge_31 : decode cX7_judge 31 = .ok (.iconst 2, 1) := by decide +kernel
theorem dX7_judge_32 : decode cX7_judge 32 = .ok (.if_icmp .lt 5, 3) := by decide +kernel
theorem dX7_judge_35 : decode cX7_judge 35 = .ok (.iload_n 2, 1) := by decide +kernel
theorem dX7_judge_36 : decode cX7_judge 36 = .ok (.ireturn, 1) := by decide +kernel
theorem dX7_judge_37 : decode cX7_judge 37 = .ok (.iload_n 1, 1) := by decide +kernel
theorem dX7_judge_38 : decode cX7_judge 38 = .ok (.tableswitch 50 0 2 #[26, 34, 42], 26) := by decide +kernel
theorem dX7_judge_64 : decode cX7_judge 64 = .ok (.aload_n 0, 1) := by decide +kernel
theorem dX7_judge_65 : decode cX7_judge 65 = .ok (.getfield 28, 3) := by decide +kernel
theorem dX7_judge_68 : decode cX7_judge 68 = .ok (.getfield 131, 3) := by decide +kernel
theorem dX7_judge_71 : decode cX7_judge 71 = .ok (.ireturn, 1) := by decide +kernel
theorem dX7_judge_72 : decode cX7_judge 72 = .ok (.aload_n 0, 1) := by decide +kernel
theorem dX7_judge_73 : decode cX7_judge 73 = .ok (.getfield 28, 3) := by decide +kernel
theorem dX7_judge_76 : decode cX7_judge 76 = .ok (.getfield 134, 3) := by decide +kernel
theorem dX7_judge_79 : decode cX7_judge 79 = .ok (.ireturn, 1) := by decide +kernel
theorem dX7_judge_80 : decode cX7_judge 80 = .ok (.aload_n 0, 1) := by decide +kernel
theorem dX7_judge_81 : decode cX7_judge 81 = .ok (.getfield 28, 3) := by decide +kernel
theorem dX7_judge_84 : decode cX7_judge 84 = .ok (.getfield 137, 3) := by decide +kernel
theorem dX7_judge_87 : decode cX7_judge 87 = .ok (.ireturn, 1) := by decide +kernel
theorem dX7_judge_88 : decode cX7_judge 88 = .ok (.aload_n 0, 1) := by decide +kernel
theorem dX7_judge_89 : decode cX7_judge 89 = .ok (.getfield 28, 3) := by decide +kernel
theorem dX7_judge_92 : decode cX7_judge 92 = .ok (.getfield 140, 3) := by decide +kernel
theorem dX7_judge_95 : decode cX7_judge 95 = .ok (.ireturn, 1) := by decide +kernel
theorem dX7_behind_0 : decode cX7_behind 0 = .ok (.iload_n 1, 1) := by decide +kernel
theorem dX7_behind_1 : decode cX7_behind 1 = .ok (.iconst 0, 1) := by decide +kernel
theorem dX7_behind_2 : decode cX7_behind 2 = .ok (.iconst 2, 1) := by decide +kernel
theorem dX7_behind_3 : decode cX7_behind 3 = .ok (.invokestatic 76, 3) := by decide +kernel
theorem dX7_behind_6 : decode cX7_behind 6 = .ok (.ifCond .ne 6, 3) := by decide +kernel
theorem dX7_behind_9 : decode cX7_behind 9 = .ok (.bipush (-2), 2) := by decide +kernel
theorem dX7_behind_11 : decode cX7_behind 11 = .ok (.ireturn, 1) := by decide +kernel
theorem dX7_behind_12 : decode cX7_behind 12 = .ok (.aload_n 0, 1) := by decide +kernel
theorem dX7_behind_13 : decode cX7_behind 13 = .ok (.iconst 0, 1) := by decide +kernel
theorem dX7_behind_14 : decode cX7_behind 14 = .ok (.invokevirtual 127, 3) := by decide +kernel
theorem dX7_behind_17 : decode cX7_behind 17 = .ok (.istore_n 2, 1) := by decide +kernel
theorem dX7_behind_18 : decode cX7_behind 18 = .ok (.iload_n 2, 1) := by decide +kernel
theorem dX7_behind_19 : decode cX7_behind 19 = .ok (.ifCond .eq 5, 3) := by decide +kernel
theorem dX7_behind_22 : decode cX7_behind 22 = .ok (.iload_n 2, 1) := by decide +kernel
theorem dX7_behind_23 : decode cX7_behind 23 = .ok (.ireturn, 1) := by decide +kernel
theorem dX7_behind_24 : decode cX7_behind 24 = .ok (.iload_n 1, 1) := by decide +kernel
theorem dX7_behind_25 : decode cX7_behind 25 = .ok (.ifCond .ne 11, 3) := by decide +kernel
theorem dX7_behind_28 : decode cX7_behind 28 = .ok (.aload_n 0, 1) := by decide +kernel
theorem dX7_behind_29 : decode cX7_behind 29 = .ok (.getfield 28, 3) := by decide +kernel
theorem dX7_behind_32 : decode cX7_behind 32 = .ok (.getfield 143, 3) := by decide +kernel
theorem dX7_behind_35 : decode cX7_behind 35 = .ok (.ireturn, 1) := by decide +kernel
theorem dX7_behind_36 : decode cX7_behind 36 = .ok (.iload_n 1, 1) := by decide +kernel
theorem dX7_behind_37 : decode cX7_behind 37 = .ok (.iconst 1, 1) := by decide +kernel
theorem dX7_behind_38 : decode cX7_behind 38 = .ok (.if_icmp .ne 11, 3) := by decide +kernel
theorem dX7_behind_41 : decode cX7_behind 41 = .ok (.aload_n 0, 1) := by decide +kernel
theorem dX7_behind_42 : decode cX7_behind 42 = .ok (.getfield 28, 3) := by decide +kernel
theorem dX7_behind_45 : decode cX7_behind 45 = .ok (.getfield 146, 3) := by decide +kernel
theorem dX7_behind_48 : decode cX7_behind 48 = .ok (.ireturn, 1) := by decide +kernel
theorem dX7_behind_49 : decode cX7_behind 49 = .ok (.aload_n 0, 1) := by decide +kernel
theorem dX7_behind_50 : decode cX7_behind 50 = .ok (.getfield 28, 3) := by decide +kernel
theorem dX7_behind_53 : decode cX7_behind 53 = .ok (.invokevirtual 149, 3) := by decide +kernel
theorem dX7_behind_56 : decode cX7_behind 56 = .ok (.ifCond .eq 7, 3) := by decide +kernel
theorem dX7_behind_59 : decode cX7_behind 59 = .ok (.iconst 1, 1) := by decide +kernel
theorem dX7_behind_60 : decode cX7_behind 60 = .ok (.goto 4, 3) := by decide +kernel
theorem dX7_behind_63 : decode cX7_behind 63 = .ok (.iconst 0, 1) := by decide +kernel
theorem dX7_behind_64 : decode cX7_behind 64 = .ok (.ireturn, 1) := by decide +kernel
theorem dX7_cost_0 : decode cX7_cost 0 = .ok (.iload_n 2, 1) := by decide +kernel
theorem dX7_cost_1 : decode cX7_cost 1 = .ok (.iconst 0, 1) := by decide +kernel
theorem dX7_cost_2 : decode cX7_cost 2 = .ok (.iconst 1, 1) := by decide +kernel
theorem dX7_cost_3 : decode cX7_cost 3 = .ok (.invokestatic 76, 3) := by decide +kernel
theorem dX7_cost_6 : decode cX7_cost 6 = .ok (.ifCond .ne 6, 3) := by decide +kernel
theorem dX7_cost_9 : decode cX7_cost 9 = .ok (.bipush (-2), 2) := by decide +kernel
theorem dX7_cost_11 : decode cX7_cost 11 = .ok (.ireturn, 1) := by decide +kernel
theorem dX7_cost_12 : decode cX7_cost 12 = .ok (.aload_n 0, 1) := by decide +kernel
theorem dX7_cost_13 : decode cX7_cost 13 = .ok (.iconst 0, 1) := by decide +kernel
theorem dX7_cost_14 : decode cX7_cost 14 = .ok (.invokevirtual 127, 3) := by decide +kernel
theorem dX7_cost_17 : decode cX7_cost 17 = .ok (.istore_n 3, 1) := by decide +kernel
theorem dX7_cost_18 : decode cX7_cost 18 = .ok (.iload_n 3, 1) := by decide +kernel
theorem dX7_cost_19 : decode cX7_cost 19 = .ok (.ifCond .eq 5, 3) := by decide +kernel
theorem dX7_cost_22 : decode cX7_cost 22 = .ok (.iload_n 3, 1) := by decide +kernel
theorem dX7_cost_23 : decode cX7_cost 23 = .ok (.ireturn, 1) := by decide +kernel
theorem dX7_cost_24 : decode cX7_cost 24 = .ok (.iload_n 1, 1) := by decide +kernel
theorem dX7_cost_25 : decode cX7_cost 25 = .ok (.iconst 0, 1) := by decide +kernel
theorem dX7_cost_26 : decode cX7_cost 26 = .ok (.aload_n 0, 1) := by decide +kernel
theorem dX7_cost_27 : decode cX7_cost 27 = .ok (.getfield 19, 3) := by decide +kernel
theorem dX7_cost_30 : decode cX7_cost 30 = .ok (.getfield 153, 3) := by decide +kernel
theorem dX7_cost_33 : decode cX7_cost 33 = .ok (.iconst 1, 1) := by decide +kernel
theorem dX7_cost_34 : decode cX7_cost 34 = .ok (.isub, 1) := by decide +kernel
theorem dX7_cost_35 : decode cX7_cost 35 = .ok (.invokestatic 76, 3) := by decide +kernel
theorem dX7_cost_38 : decode cX7_cost 38 = .ok (.ifCond .ne 5, 3) := by decide +kernel
theorem dX7_cost_41 : decode cX7_cost 41 = .ok (.iconst (-1), 1) := by decide +kernel
theorem dX7_cost_42 : decode cX7_cost 42 = .ok (.ireturn, 1) := by decide +kernel
theorem dX7_cost_43 : decode cX7_cost 43 = .ok (.iload_n 2, 1) := by decide +kernel
theorem dX7_cost_44 : decode cX7_cost 44 = .ok (.ifCond .ne 15, 3) := by decide +kernel
theorem dX7_cost_47 : decode cX7_cost 47 = .ok (.aload_n 0, 1) := by decide +kernel
theorem dX7_cost_48 : decode cX7_cost 48 = .ok (.getfield 28, 3) := by decide +kernel
theorem dX7_cost_51 : decode cX7_cost 51 = .ok (.getfield 156, 3) := by decide +kernel
theorem dX7_cost_54 : decode cX7_cost 54 = .ok (.iload_n 1, 1) := by decide +kernel
theorem dX7_cost_55 : decode cX7_cost 55 = .ok (.iaload, 1) := by decide +kernel
theorem dX7_cost_56 : decode cX7_cost 56 = .ok (.goto 12, 3) := by decide +kernel
theorem dX7_cost_59 : decode cX7_cost 59 = .ok (.aload_n 0, 1) := by decide +kernel
theorem dX7_cost_60 : decode cX7_cost 60 = .ok (.getfield 28, 3) := by decide +kernel
theorem dX7_cost_63 : decode cX7_cost 63 = .ok (.getfield 159, 3) := by decide +kernel
theorem dX7_cost_66 : decode cX7_cost 66 = .ok (.iload_n 1, 1) := by decide +kernel
theorem dX7_cost_67 : decode cX7_cost 67 = .ok (.iaload, 1) := by decide +kernel
theorem dX7_cost_68 : decode cX7_cost 68 = .ok (.ireturn, 1) := by decide +kernel
theorem dX7_spent_0 : decode cX7_spent 0 = .ok (.iload_n 1, 1) := by decide +kernel
theorem dX7_spent_1 : decode cX7_spent 1 = .ok (.invokestatic 86, 3) := by decide +kernel
theorem dX7_spent_4 : decode cX7_spent 4 = .ok (.ifCond .ne 5, 3) := by decide +kernel
theorem dX7_spent_7 : decode cX7_spent 7 = .ok (.iconst (-1), 1) := by decide +kernel
theorem dX7_spent_8 : decode cX7_spent 8 = .ok (.ireturn, 1) := by decide +kernel
theorem dX7_spent_9 : decode cX7_spent 9 = .ok (.aload_n 0, 1) := by decide +kernel
theorem dX7_spent_10 : decode cX7_spent 10 = .ok (.iconst 0, 1) := by decide +kernel
theorem dX7_spent_11 : decode cX7_spent 11 = .ok (.invokevirtual 127, 3) := by decide +kernel
theorem dX7_spent_14 : decode cX7_spent 14 = .ok (.istore_n 2, 1) := by decide +kernel
theorem dX7_spent_15 : decode cX7_spent 15 = .ok (.iload_n 2, 1) := by decide +kernel
theorem dX7_spent_16 : decode cX7_spent 16 = .ok (.ifCond .eq 7, 3) := by decide +kernel
theorem dX7_spent_19 : decode cX7_spent 19 = .ok (.iload_n 2, 1) := by decide +kernel
theorem dX7_spent_20 : decode cX7_spent 20 = .ok (.goto 11, 3) := by decide +kernel
theorem dX7_spent_23 : decode cX7_spent 23 = .ok (.aload_n 0, 1) := by decide +kernel
theorem dX7_spent_24 : decode cX7_spent 24 = .ok (.getfield 28, 3) := by decide +kernel
theorem dX7_spent_27 : decode cX7_spent 27 = .ok (.iload_n 1, 1) := by decide +kernel
theorem dX7_spent_28 : decode cX7_spent 28 = .ok (.invokevirtual 162, 3) := by decide +kernel
theorem dX7_spent_31 : decode cX7_spent 31 = .ok (.ireturn, 1) := by decide +kernel
theorem dX7_done_0 : decode cX7_done 0 = .ok (.aload_n 0, 1) := by decide +kernel
theorem dX7_done_1 : decode cX7_done 1 = .ok (.iconst 0, 1) := by decide +kernel
theorem dX7_done_2 : decode cX7_done 2 = .ok (.invokevirtual 127, 3) := by decide +kernel
theorem dX7_done_5 : decode cX7_done 5 = .ok (.istore_n 1, 1) := by decide +kernel
theorem dX7_done_6 : decode cX7_done 6 = .ok (.iload_n 1, 1) := by decide +kernel
theorem dX7_done_7 : decode cX7_done 7 = .ok (.ifCond .eq 5, 3) := by decide +kernel
theorem dX7_done_10 : decode cX7_done 10 = .ok (.iload_n 1, 1) := by decide +kernel
theorem dX7_done_11 : decode cX7_done 11 = .ok (.ireturn, 1) := by decide +kernel
theorem dX7_done_12 : decode cX7_done 12 = .ok (.aload_n 0, 1) := by decide +kernel
theorem dX7_done_13 : decode cX7_done 13 = .ok (.getfield 12, 3) := by decide +kernel
theorem dX7_done_16 : decode cX7_done 16 = .ok (.getfield 83, 3) := by decide +kernel
theorem dX7_done_19 : decode cX7_done 19 = .ok (.iconst 0, 1) := by decide +kernel
theorem dX7_done_20 : decode cX7_done 20 = .ok (.aload_n 0, 1) := by decide +kernel
theorem dX7_done_21 : decode cX7_done 21 = .ok (.getfield 28, 3) := by decide +kernel
theorem dX7_done_24 : decode cX7_done 24 = .ok (.getfield 143, 3) := by decide +kernel
theorem dX7_done_27 : decode cX7_done 27 = .ok (.iastore, 1) := by decide +kernel
theorem dX7_done_28 : decode cX7_done 28 = .ok (.aload_n 0, 1) := by decide +kernel
theorem dX7_done_29 : decode cX7_done 29 = .ok (.getfield 12, 3) := by decide +kernel
theorem dX7_done_32 : decode cX7_done 32 = .ok (.getfield 83, 3) := by decide +kernel
theorem dX7_done_35 : decode cX7_done 35 = .ok (.iconst 4, 1) := by decide +kernel
theorem dX7_done_36 : decode cX7_done 36 = .ok (.aload_n 0, 1) := by decide +kernel
theorem dX7_done_37 : decode cX7_done 37 = .ok (.getfield 28, 3) := by decide +kernel
theorem dX7_done_40 : decode cX7_done 40 = .ok (.getfield 146, 3) := by decide +kernel
theorem dX7_done_43 : decode cX7_done 43 = .ok (.iastore, 1) := by decide +kernel
theorem dX7_done_44 : decode cX7_done 44 = .ok (.aload_n 0, 1) := by decide +kernel
theorem dX7_done_45 : decode cX7_done 45 = .ok (.getfield 12, 3) := by decide +kernel
theorem dX7_done_48 : decode cX7_done 48 = .ok (.aload_n 0, 1) := by decide +kernel
theorem dX7_done_49 : decode cX7_done 49 = .ok (.getfield 28, 3) := by decide +kernel
theorem dX7_done_52 : decode cX7_done 52 = .ok (.getfield 165, 3) := by decide +kernel
theorem dX7_done_55 : decode cX7_done 55 = .ok (.putfield 168, 3) := by decide +kernel
theorem dX7_done_58 : decode cX7_done 58 = .ok (.aload_n 0, 1) := by decide +kernel
theorem dX7_done_59 : decode cX7_done 59 = .ok (.getfield 12, 3) := by decide +kernel
theorem dX7_done_62 : decode cX7_done 62 = .ok (.aload_n 0, 1) := by decide +kernel
theorem dX7_done_63 : decode cX7_done 63 = .ok (.getfield 28, 3) := by decide +kernel
theorem dX7_done_66 : decode cX7_done 66 = .ok (.getfield 169, 3) := by decide +kernel
theorem dX7_done_69 : decode cX7_done 69 = .ok (.putfield 172, 3) := by decide +kernel
theorem dX7_done_72 : decode cX7_done 72 = .ok (.aload_n 0, 1) := by decide +kernel
theorem dX7_done_73 : decode cX7_done 73 = .ok (.getfield 19, 3) := by decide +kernel
theorem dX7_done_76 : decode cX7_done 76 = .ok (.iconst 0, 1) := by decide +kernel
theorem dX7_done_77 : decode cX7_done 77 = .ok (.putfield 115, 3) := by decide +kernel
theorem dX7_done_80 : decode cX7_done 80 = .ok (.aload_n 0, 1) := by decide +kernel
theorem dX7_done_81 : decode cX7_done 81 = .ok (.getfield 19, 3) := by decide +kernel
theorem dX7_done_84 : decode cX7_done 84 = .ok (.getfield 153, 3) := by decide +kernel
theorem dX7_done_87 : decode cX7_done 87 = .ok (.ireturn, 1) := by decide +kernel
theorem dX7_plain_0 : decode cX7_plain 0 = .ok (.aload_n 0, 1) := by decide +kernel
theorem dX7_plain_1 : decode cX7_plain 1 = .ok (.getfield 12, 3) := by decide +kernel
theorem dX7_plain_4 : decode cX7_plain 4 = .ok (.iload_n 1, 1) := by decide +kernel
theorem dX7_plain_5 : decode cX7_plain 5 = .ok (.invokevirtual 173, 3) := by decide +kernel
theorem dX7_plain_8 : decode cX7_plain 8 = .ok (.ifCond .eq 10, 3) := by decide +kernel
theorem dX7_plain_11 : decode cX7_plain 11 = .ok (.iload_n 2, 1) := by decide +kernel
theorem dX7_plain_12 : decode cX7_plain 12 = .ok (.invokestatic 86, 3) := by decide +kernel
theorem dX7_plain_15 : decode cX7_plain 15 = .ok (.ifCond .ne 5, 3) := by decide +kernel
theorem dX7_plain_18 : decode cX7_plain 18 = .ok (.iconst (-1), 1) := by decide +kernel
theorem dX7_plain_19 : decode cX7_plain 19 = .ok (.ireturn, 1) := by decide +kernel
theorem dX7_plain_20 : decode cX7_plain 20 = .ok (.iload_n 3, 1) := by decide +kernel
theorem dX7_plain_21 : decode cX7_plain 21 = .ok (.iconst 0, 1) := by decide +kernel
theorem dX7_plain_22 : decode cX7_plain 22 = .ok (.bipush 15, 2) := by decide +kernel
theorem dX7_plain_24 : decode cX7_plain 24 = .ok (.invokestatic 76, 3) := by decide +kernel
theorem dX7_plain_27 : decode cX7_plain 27 = .ok (.ifCond .eq 24, 3) := by decide +kernel
theorem dX7_plain_30 : decode cX7_plain 30 = .ok (.aload_n 0, 1) := by decide +kernel
theorem dX7_plain_31 : decode cX7_plain 31 = .ok (.getfield 12, 3) := by decide +kernel
theorem dX7_plain_34 : decode cX7_plain 34 = .ok (.iload_n 1, 1) := by decide +kernel
theorem dX7_plain_35 : decode cX7_plain 35 = .ok (.aload_n 0, 1) := by decide +kernel
theorem dX7_plain_36 : decode cX7_plain 36 = .ok (.getfield 12, 3) := by decide +kernel
theorem dX7_plain_39 : decode cX7_plain 39 = .ok (.iload_n 2, 1) := by decide +kernel
theorem dX7_plain_40 : decode cX7_plain 40 = .ok (.iconst 0, 1) := by decide +kernel
theorem dX7_plain_41 : decode cX7_plain 41 = .ok (.invokevirtual 176, 3) := by decide +kernel
theorem dX7_plain_44 : decode cX7_plain 44 = .ok (.iload_n 3, 1) := by decide +kernel
theorem dX7_plain_45 : decode cX7_plain 45 = .ok (.invokevirtual 180, 3) := by decide +kernel
theorem dX7_plain_48 : decode cX7_plain 48 = .ok (.goto 5, 3) := by decide +kernel
theorem dX7_plain_51 : decode cX7_plain 51 = .ok (.bipush (-2), 2) := by decide +kernel
theorem dX7_plain_53 : decode cX7_plain 53 = .ok (.ireturn, 1) := by decide +kernel
theorem dX7_shared_0 : decode cX7_shared 0 = .ok (.aload_n 0, 1) := by decide +kernel
theorem dX7_shared_1 : decode cX7_shared 1 = .ok (.iload_n 1, 1) := by decide +kernel
theorem dX7_shared_2 : decode cX7_shared 2 = .ok (.iload_n 2, 1) := by decide +kernel
theorem dX7_shared_3 : decode cX7_shared 3 = .ok (.invokevirtual 184, 3) := by decide +kernel
theorem dX7_shared_6 : decode cX7_shared 6 = .ok (.istore_n 3, 1) := by decide +kernel
theorem dX7_shared_7 : decode cX7_shared 7 = .ok (.iload_n 3, 1) := by decide +kernel
theorem dX7_shared_8 : decode cX7_shared 8 = .ok (.ifCond .eq 7, 3) := by decide +kernel
theorem dX7_shared_11 : decode cX7_shared 11 = .ok (.iload_n 3, 1) := by decide +kernel
theorem dX7_shared_12 : decode cX7_shared 12 = .ok (.goto 11, 3) := by decide +kernel
theorem dX7_shared_15 : decode cX7_shared 15 = .ok (.aload_n 0, 1) := by decide +kernel
theorem dX7_shared_16 : decode cX7_shared 16 = .ok (.getfield 37, 3) := by decide +kernel
theorem dX7_shared_19 : decode cX7_shared 19 = .ok (.iload_n 2, 1) := by decide +kernel
theorem dX7_shared_20 : decode cX7_shared 20 = .ok (.invokevirtual 187, 3) := by decide +kernel
theorem dX7_shared_23 : decode cX7_shared 23 = .ok (.ireturn, 1) := by decide +kernel
theorem dX7_most_0 : decode cX7_most 0 = .ok (.iload_n 3, 1) := by decide +kernel
theorem dX7_most_1 : decode cX7_most 1 = .ok (.iconst 0, 1) := by decide +kernel
theorem dX7_most_2 : decode cX7_most 2 = .ok (.iconst 1, 1) := by decide +kernel
theorem dX7_most_3 : decode cX7_most 3 = .ok (.invokestatic 76, 3) := by decide +kernel
theorem dX7_most_6 : decode cX7_most 6 = .ok (.ifCond .ne 6, 3) := by decide +kernel
theorem dX7_most_9 : decode cX7_most 9 = .ok (.bipush (-2), 2) := by decide +kernel
theorem dX7_most_11 : decode cX7_most 11 = .ok (.ireturn, 1) := by decide +kernel
theorem dX7_most_12 : decode cX7_most 12 = .ok (.aload_n 0, 1) := by decide +kernel
theorem dX7_most_13 : decode cX7_most 13 = .ok (.iload_n 1, 1) := by decide +kernel
theorem dX7_most_14 : decode cX7_most 14 = .ok (.iload_n 2, 1) := by decide +kernel
theorem dX7_most_15 : decode cX7_most 15 = .ok (.invokevirtual 190, 3) := by decide +kernel
theorem dX7_most_18 : decode cX7_most 18 = .ok (.istore 4, 2) := by decide +kernel
theorem dX7_most_20 : decode cX7_most 20 = .ok (.iload 4, 2) := by decide +kernel
theorem dX7_most_22 : decode cX7_most 22 = .ok (.ifCond .eq 8, 3) := by decide +kernel
theorem dX7_most_25 : decode cX7_most 25 = .ok (.iload 4, 2) := by decide +kernel
theorem dX7_most_27 : decode cX7_most 27 = .ok (.goto 21, 3) := by decide +kernel
theorem dX7_most_30 : decode cX7_most 30 = .ok (.aload_n 0, 1) := by decide +kernel
theorem dX7_most_31 : decode cX7_most 31 = .ok (.getfield 37, 3) := by decide +kernel
theorem dX7_most_34 : decode cX7_most 34 = .ok (.iload_n 2, 1) := by decide +kernel
theorem dX7_most_35 : decode cX7_most 35 = .ok (.iload_n 3, 1) := by decide +kernel
theorem dX7_most_36 : decode cX7_most 36 = .ok (.iconst 1, 1) := by decide +kernel
theorem dX7_most_37 : decode cX7_most 37 = .ok (.if_icmp .ne 7, 3) := by decide +kernel
theorem dX7_most_40 : decode cX7_most 40 = .ok (.iconst 1, 1) := by decide +kernel
theorem dX7_most_41 : decode cX7_most 41 = .ok (.goto 4, 3) := by decide +kernel
theorem dX7_most_44 : decode cX7_most 44 = .ok (.iconst 0, 1) := by decide +kernel
theorem dX7_most_45 : decode cX7_most 45 = .ok (.invokevirtual 193, 3) := by decide +kernel
theorem dX7_most_48 : decode cX7_most 48 = .ok (.ireturn, 1) := by decide +kernel
theorem dX7_least_0 : decode cX7_least 0 = .ok (.aload_n 0, 1) := by decide +kernel
theorem dX7_least_1 : decode cX7_least 1 = .ok (.iload_n 1, 1) := by decide +kernel
theorem dX7_least_2 : decode cX7_least 2 = .ok (.iload_n 2, 1) := by decide +kernel
theorem dX7_least_3 : decode cX7_least 3 = .ok (.invokevirtual 190, 3) := by decide +kernel
theorem dX7_least_6 : decode cX7_least 6 = .ok (.istore_n 3, 1) := by decide +kernel
theorem dX7_least_7 : decode cX7_least 7 = .ok (.iload_n 3, 1) := by decide +kernel
theorem dX7_least_8 : decode cX7_least 8 = .ok (.ifCond .eq 7, 3) := by decide +kernel
theorem dX7_least_11 : decode cX7_least 11 = .ok (.iload_n 3, 1) := by decide +kernel
theorem dX7_least_12 : decode cX7_least 12 = .ok (.goto 11, 3) := by decide +kernel
theorem dX7_least_15 : decode cX7_least 15 = .ok (.aload_n 0, 1) := by decide +kernel
theorem dX7_least_16 : decode cX7_least 16 = .ok (.getfield 37, 3) := by decide +kernel
theorem dX7_least_19 : decode cX7_least 19 = .ok (.iload_n 2, 1) := by decide +kernel
theorem dX7_least_20 : decode cX7_least 20 = .ok (.invokevirtual 197, 3) := by decide +kernel
theorem dX7_least_23 : decode cX7_least 23 = .ok (.ireturn, 1) := by decide +kernel
theorem dX7_ends_0 : decode cX7_ends 0 = .ok (.aload_n 0, 1) := by decide +kernel
theorem dX7_ends_1 : decode cX7_ends 1 = .ok (.getfield 12, 3) := by decide +kernel
theorem dX7_ends_4 : decode cX7_ends 4 = .ok (.iload_n 1, 1) := by decide +kernel
theorem dX7_ends_5 : decode cX7_ends 5 = .ok (.invokevirtual 173, 3) := by decide +kernel
theorem dX7_ends_8 : decode cX7_ends 8 = .ok (.ifCond .ne 5, 3) := by decide +kernel
theorem dX7_ends_11 : decode cX7_ends 11 = .ok (.iconst (-1), 1) := by decide +kernel
theorem dX7_ends_12 : decode cX7_ends 12 = .ok (.ireturn, 1) := by decide +kernel
theorem dX7_ends_13 : decode cX7_ends 13 = .ok (.aload_n 0, 1) := by decide +kernel
theorem dX7_ends_14 : decode cX7_ends 14 = .ok (.getfield 12, 3) := by decide +kernel
theorem dX7_ends_17 : decode cX7_ends 17 = .ok (.iload_n 1, 1) := by decide +kernel
theorem dX7_ends_18 : decode cX7_ends 18 = .ok (.invokevirtual 200, 3) := by decide +kernel
theorem dX7_ends_21 : decode cX7_ends 21 = .ok (.ifCond .ne 6, 3) := by decide +kernel
theorem dX7_ends_24 : decode cX7_ends 24 = .ok (.bipush (-3), 2) := by decide +kernel
theorem dX7_ends_26 : decode cX7_ends 26 = .ok (.ireturn, 1) := by decide +kernel
theorem dX7_ends_27 : decode cX7_ends 27 = .ok (.aload_n 0, 1) := by decide +kernel
theorem dX7_ends_28 : decode cX7_ends 28 = .ok (.getfield 12, 3) := by decide +kernel
theorem dX7_ends_31 : decode cX7_ends 31 = .ok (.getfield 83, 3) := by decide +kernel
theorem dX7_ends_34 : decode cX7_ends 34 = .ok (.iconst 0, 1) := by decide +kernel
theorem dX7_ends_35 : decode cX7_ends 35 = .ok (.iaload, 1) := by decide +kernel
theorem dX7_ends_36 : decode cX7_ends 36 = .ok (.istore_n 2, 1) := by decide +kernel
theorem dX7_ends_37 : decode cX7_ends 37 = .ok (.aload_n 0, 1) := by decide +kernel
theorem dX7_ends_38 : decode cX7_ends 38 = .ok (.getfield 12, 3) := by decide +kernel
theorem dX7_ends_41 : decode cX7_ends 41 = .ok (.getfield 83, 3) := by decide +kernel
theorem dX7_ends_44 : decode cX7_ends 44 = .ok (.iconst 4, 1) := by decide +kernel
theorem dX7_ends_45 : decode cX7_ends 45 = .ok (.iaload, 1) := by decide +kernel
theorem dX7_ends_46 : decode cX7_ends 46 = .ok (.istore_n 3, 1) := by decide +kernel
theorem dX7_ends_47 : decode cX7_ends 47 = .ok (.iload_n 3, 1) := by decide +kernel
theorem dX7_ends_48 : decode cX7_ends 48 = .ok (.bipush 14, 2) := by decide +kernel
theorem dX7_ends_50 : decode cX7_ends 50 = .ok (.if_icmp .ge 28, 3) := by decide +kernel
theorem dX7_ends_53 : decode cX7_ends 53 = .ok (.iload_n 2, 1) := by decide +kernel
theorem dX7_ends_54 : decode cX7_ends 54 = .ok (.aload_n 0, 1) := by decide +kernel
theorem dX7_ends_55 : decode cX7_ends 55 = .ok (.getfield 12, 3) := by decide +kernel
theorem dX7_ends_58 : decode cX7_ends 58 = .ok (.iload_n 1, 1) := by decide +kernel
theorem dX7_ends_59 : decode cX7_ends 59 = .ok (.iload_n 3, 1) := by decide +kernel
theorem dX7_ends_60 : decode cX7_ends 60 = .ok (.iconst 0, 1) := by decide +kernel
theorem dX7_ends_61 : decode cX7_ends 61 = .ok (.invokevirtual 203, 3) := by decide +kernel
theorem dX7_ends_64 : decode cX7_ends 64 = .ok (.isub, 1) := by decide +kernel
theorem dX7_ends_65 : decode cX7_ends 65 = .ok (.istore_n 2, 1) := by decide +kernel
theorem dX7_ends_66 : decode cX7_ends 66 = .ok (.iload_n 2, 1) := by decide +kernel
theorem dX7_ends_67 : decode cX7_ends 67 = .ok (.ifCond .ge 5, 3) := by decide +kernel
theorem dX7_ends_70 : decode cX7_ends 70 = .ok (.iload_n 3, 1) := by decide +kernel
theorem dX7_ends_71 : decode cX7_ends 71 = .ok (.ireturn, 1) := by decide +kernel
theorem dX7_ends_72 : decode cX7_ends 72 = .ok (.iinc 3 1, 3) := by decide +kernel
theorem dX7_ends_75 : decode cX7_ends 75 = .ok (.goto (-28), 3) := by decide +kernel
theorem dX7_ends_78 : decode cX7_ends 78 = .ok (.bipush (-6), 2) := by decide +kernel
theorem dX7_ends_80 : decode cX7_ends 80 = .ok (.ireturn, 1) := by decide +kernel
theorem dX7_mark_0 : decode cX7_mark 0 = .ok (.aload_n 0, 1) := by decide +kernel
theorem dX7_mark_1 : decode cX7_mark 1 = .ok (.getfield 12, 3) := by decide +kernel
theorem dX7_mark_4 : decode cX7_mark 4 = .ok (.getfield 83, 3) := by decide +kernel
theorem dX7_mark_7 : decode cX7_mark 7 = .ok (.iconst 0, 1) := by decide +kernel
theorem dX7_mark_8 : decode cX7_mark 8 = .ok (.iaload, 1) := by decide +kernel
theorem dX7_mark_9 : decode cX7_mark 9 = .ok (.sipush 200, 3) := by decide +kernel
theorem dX7_mark_12 : decode cX7_mark 12 = .ok (.idiv, 1) := by decide +kernel
theorem dX7_mark_13 : decode cX7_mark 13 = .ok (.ireturn, 1) := by decide +kernel
theorem dX7_keep_0 : decode cX7_keep 0 = .ok (.aload_n 0, 1) := by decide +kernel
theorem dX7_keep_1 : decode cX7_keep 1 = .ok (.getfield 12, 3) := by decide +kernel
theorem dX7_keep_4 : decode cX7_keep 4 = .ok (.iload_n 1, 1) := by decide +kernel
theorem dX7_keep_5 : decode cX7_keep 5 = .ok (.invokevirtual 173, 3) := by decide +kernel
theorem dX7_keep_8 : decode cX7_keep 8 = .ok (.ifCond .eq 10, 3) := by decide +kernel
theorem dX7_keep_11 : decode cX7_keep 11 = .ok (.iload_n 2, 1) := by decide +kernel
theorem dX7_keep_12 : decode cX7_keep 12 = .ok (.invokestatic 86, 3) := by decide +kernel
theorem dX7_keep_15 : decode cX7_keep 15 = .ok (.ifCond .ne 5, 3) := by decide +kernel
theorem dX7_keep_18 : decode cX7_keep 18 = .ok (.iconst (-1), 1) := by decide +kernel
theorem dX7_keep_19 : decode cX7_keep 19 = .ok (.ireturn, 1) := by decide +kernel
theorem dX7_keep_20 : decode cX7_keep 20 = .ok (.iconst 0, 1) := by decide +kernel
theorem dX7_keep_21 : decode cX7_keep 21 = .ok (.istore_n 3, 1) := by decide +kernel
theorem dX7_keep_22 : decode cX7_keep 22 = .ok (.iload_n 2, 1) := by decide +kernel
theorem dX7_keep_23 : decode cX7_keep 23 = .ok (.iconst 1, 1) := by decide +kernel
theorem dX7_keep_24 : decode cX7_keep 24 = .ok (.iadd, 1) := by decide +kernel
theorem dX7_keep_25 : decode cX7_keep 25 = .ok (.istore 4, 2) := by decide +kernel
theorem dX7_keep_27 : decode cX7_keep 27 = .ok (.iload 4, 2) := by decide +kernel
theorem dX7_keep_29 : decode cX7_keep 29 = .ok (.bipush 14, 2) := by decide +kernel
theorem dX7_keep_31 : decode cX7_keep 31 = .ok (.if_icmp .ge 23, 3) := by decide +kernel
theorem dX7_keep_34 : decode cX7_keep 34 = .ok (.iload_n 3, 1) := by decide +kernel
theorem dX7_keep_35 : decode cX7_keep 35 = .ok (.aload_n 0, 1) := by decide +kernel
theorem dX7_keep_36 : decode cX7_keep 36 = .ok (.getfield 12, 3) := by decide +kernel
theorem dX7_keep_39 : decode cX7_keep 39 = .ok (.iload_n 1, 1) := by decide +kernel
theorem dX7_keep_40 : decode cX7_keep 40 = .ok (.iload 4, 2) := by decide +kernel
theorem dX7_keep_42 : decode cX7_keep 42 = .ok (.iconst 1, 1) := by decide +kernel
theorem dX7_keep_43 : decode cX7_keep 43 = .ok (.invokevirtual 203, 3) := by decide +kernel
theorem dX7_keep_46 : decode cX7_keep 46 = .ok (.iadd, 1) := by decide +kernel
theorem dX7_keep_47 : decode cX7_keep 47 = .ok (.istore_n 3, 1) := by decide +kernel
theorem dX7_keep_48 : decode cX7_keep 48 = .ok (.iinc 4 1, 3) := by decide +kernel
theorem dX7_keep_51 : decode cX7_keep 51 = .ok (.goto (-24), 3) := by decide +kernel
theorem dX7_keep_54 : decode cX7_keep 54 = .ok (.iload_n 3, 1) := by decide +kernel
theorem dX7_keep_55 : decode cX7_keep 55 = .ok (.ireturn, 1) := by decide +kernel
theorem dX7_seen_0 : decode cX7_seen 0 = .ok (.iload_n 1, 1) := by decide +kernel
theorem dX7_seen_1 : decode cX7_seen 1 = .ok (.iconst 0, 1) := by decide +kernel
theorem dX7_seen_2 : decode cX7_seen 2 = .ok (.bipush 60, 2) := by decide +kernel
theorem dX7_seen_4 : decode cX7_seen 4 = .ok (.invokestatic 76, 3) := by decide +kernel
theorem dX7_seen_7 : decode cX7_seen 7 = .ok (.ifCond .eq 13, 3) := by decide +kernel
theorem dX7_seen_10 : decode cX7_seen 10 = .ok (.iload_n 2, 1) := by decide +kernel
theorem dX7_seen_11 : decode cX7_seen 11 = .ok (.iconst 0, 1) := by decide +kernel
theorem dX7_seen_12 : decode cX7_seen 12 = .ok (.bipush 20, 2) := by decide +kernel
theorem dX7_seen_14 : decode cX7_seen 14 = .ok (.invokestatic 76, 3) := by decide +kernel
theorem dX7_seen_17 : decode cX7_seen 17 = .ok (.ifCond .ne 6, 3) := by decide +kernel
theorem dX7_seen_20 : decode cX7_seen 20 = .ok (.bipush (-2), 2) := by decide +kernel
theorem dX7_seen_22 : decode cX7_seen 22 = .ok (.ireturn, 1) := by decide +kernel
theorem dX7_seen_23 : decode cX7_seen 23 = .ok (.aload_n 0, 1) := by decide +kernel
theorem dX7_seen_24 : decode cX7_seen 24 = .ok (.getfield 12, 3) := by decide +kernel
theorem dX7_seen_27 : decode cX7_seen 27 = .ok (.getfield 206, 3) := by decide +kernel
theorem dX7_seen_30 : decode cX7_seen 30 = .ok (.bipush 8, 2) := by decide +kernel
theorem dX7_seen_32 : decode cX7_seen 32 = .ok (.if_icmp .lt 6, 3) := by decide +kernel
theorem dX7_seen_35 : decode cX7_seen 35 = .ok (.bipush (-4), 2) := by decide +kernel
theorem dX7_seen_37 : decode cX7_seen 37 = .ok (.ireturn, 1) := by decide +kernel
theorem dX7_seen_38 : decode cX7_seen 38 = .ok (.aload_n 0, 1) := by decide +kernel
theorem dX7_seen_39 : decode cX7_seen 39 = .ok (.getfield 12, 3) := by decide +kernel
theorem dX7_seen_42 : decode cX7_seen 42 = .ok (.getfield 209, 3) := by decide +kernel
theorem dX7_seen_45 : decode cX7_seen 45 = .ok (.aload_n 0, 1) := by decide +kernel
theorem dX7_seen_46 : decode cX7_seen 46 = .ok (.getfield 12, 3) := by decide +kernel
theorem dX7_seen_49 : decode cX7_seen 49 = .ok (.getfield 206, 3) := by decide +kernel
theorem dX7_seen_52 : decode cX7_seen 52 = .ok (.iload_n 1, 1) := by decide +kernel
theorem dX7_seen_53 : decode cX7_seen 53 = .ok (.iastore, 1) := by decide +kernel
theorem dX7_seen_54 : decode cX7_seen 54 = .ok (.aload_n 0, 1) := by decide +kernel
theorem dX7_seen_55 : decode cX7_seen 55 = .ok (.getfield 12, 3) := by decide +kernel
theorem dX7_seen_58 : decode cX7_seen 58 = .ok (.getfield 212, 3) := by decide +kernel
theorem dX7_seen_61 : decode cX7_seen 61 = .ok (.aload_n 0, 1) := by decide +kernel
theorem dX7_seen_62 : decode cX7_seen 62 = .ok (.getfield 12, 3) := by decide +kernel
theorem dX7_seen_65 : decode cX7_seen 65 = .ok (.getfield 206, 3) := by decide +kernel
theorem dX7_seen_68 : decode cX7_seen 68 = .ok (.iload_n 2, 1) := by decide +kernel
theorem dX7_seen_69 : decode cX7_seen 69 = .ok (.iastore, 1) := by decide +kernel
theorem dX7_seen_70 : decode cX7_seen 70 = .ok (.aload_n 0, 1) := by decide +kernel
theorem dX7_seen_71 : decode cX7_seen 71 = .ok (.getfield 12, 3) := by decide +kernel
theorem dX7_seen_74 : decode cX7_seen 74 = .ok (.dup, 1) := by decide +kernel
theorem dX7_seen_75 : decode cX7_seen 75 = .ok (.getfield 206, 3) := by decide +kernel
theorem dX7_seen_78 : decode cX7_seen 78 = .ok (.iconst 1, 1) := by decide +kernel
theorem dX7_seen_79 : decode cX7_seen 79 = .ok (.iadd, 1) := by decide +kernel
theorem dX7_seen_80 : decode cX7_seen 80 = .ok (.putfield 206, 3) := by decide +kernel
theorem dX7_seen_83 : decode cX7_seen 83 = .ok (.aload_n 0, 1) := by decide +kernel
theorem dX7_seen_84 : decode cX7_seen 84 = .ok (.getfield 12, 3) := by decide +kernel
theorem dX7_seen_87 : decode cX7_seen 87 = .ok (.getfield 206, 3) := by decide +kernel
theorem dX7_seen_90 : decode cX7_seen 90 = .ok (.ireturn, 1) := by decide +kernel
theorem dX7_forget_0 : decode cX7_forget 0 = .ok (.aload_n 0, 1) := by decide +kernel
theorem dX7_forget_1 : decode cX7_forget 1 = .ok (.getfield 12, 3) := by decide +kernel
theorem dX7_forget_4 : decode cX7_forget 4 = .ok (.getfield 206, 3) := by decide +kernel
theorem dX7_forget_7 : decode cX7_forget 7 = .ok (.istore_n 1, 1) := by decide +kernel
theorem dX7_forget_8 : decode cX7_forget 8 = .ok (.aload_n 0, 1) := by decide +kernel
theorem dX7_forget_9 : decode cX7_forget 9 = .ok (.getfield 12, 3) := by decide +kernel
theorem dX7_forget_12 : decode cX7_forget 12 = .ok (.iconst 0, 1) := by decide +kernel
theorem dX7_forget_13 : decode cX7_forget 13 = .ok (.putfield 206, 3) := by decide +kernel
theorem dX7_forget_16 : decode cX7_forget 16 = .ok (.iload_n 1, 1) := by decide +kernel
theorem dX7_forget_17 : decode cX7_forget 17 = .ok (.ireturn, 1) := by decide +kernel
theorem dX7_leaks_0 : decode cX7_leaks 0 = .ok (.aload_n 0, 1) := by decide +kernel
theorem dX7_leaks_1 : decode cX7_leaks 1 = .ok (.invokevirtual 215, 3) := by decide +kernel
theorem dX7_leaks_4 : decode cX7_leaks 4 = .ok (.istore_n 2, 1) := by decide +kernel
theorem dX7_leaks_5 : decode cX7_leaks 5 = .ok (.iload_n 2, 1) := by decide +kernel
theorem dX7_leaks_6 : decode cX7_leaks 6 = .ok (.ifCond .eq 5, 3) := by decide +kernel
theorem dX7_leaks_9 : decode cX7_leaks 9 = .ok (.iload_n 2, 1) := by decide +kernel
theorem dX7_leaks_10 : decode cX7_leaks 10 = .ok (.ireturn, 1) := by decide +kernel
theorem dX7_leaks_11 : decode cX7_leaks 11 = .ok (.iload_n 1, 1) := by decide +kernel
theorem dX7_leaks_12 : decode cX7_leaks 12 = .ok (.iconst (-1), 1) := by decide +kernel
theorem dX7_leaks_13 : decode cX7_leaks 13 = .ok (.if_icmp .ne 13, 3) := by decide +kernel
theorem dX7_leaks_16 : decode cX7_leaks 16 = .ok (.aload_n 0, 1) := by decide +kernel
theorem dX7_leaks_17 : decode cX7_leaks 17 = .ok (.getfield 46, 3) := by decide +kernel
theorem dX7_leaks_20 : decode cX7_leaks 20 = .ok (.getfield 219, 3) := by decide +kernel
theorem dX7_leaks_23 : decode cX7_leaks 23 = .ok (.goto 11, 3) := by decide +kernel
theorem dX7_leaks_26 : decode cX7_leaks 26 = .ok (.aload_n 0, 1) := by decide +kernel
theorem dX7_leaks_27 : decode cX7_leaks 27 = .ok (.getfield 46, 3) := by decide +kernel
theorem dX7_leaks_30 : decode cX7_leaks 30 = .ok (.iload_n 1, 1) := by decide +kernel
theorem dX7_leaks_31 : decode cX7_leaks 31 = .ok (.invokevirtual 222, 3) := by decide +kernel
theorem dX7_leaks_34 : decode cX7_leaks 34 = .ok (.ireturn, 1) := by decide +kernel
theorem dX7_where_0 : decode cX7_where 0 = .ok (.aload_n 0, 1) := by decide +kernel
theorem dX7_where_1 : decode cX7_where 1 = .ok (.invokevirtual 215, 3) := by decide +kernel
theorem dX7_where_4 : decode cX7_where 4 = .ok (.istore_n 1, 1) := by decide +kernel
theorem dX7_where_5 : decode cX7_where 5 = .ok (.iload_n 1, 1) := by decide +kernel
theorem dX7_where_6 : decode cX7_where 6 = .ok (.ifCond .eq 7, 3) := by decide +kernel
theorem dX7_where_9 : decode cX7_where 9 = .ok (.iload_n 1, 1) := by decide +kernel
theorem dX7_where_10 : decode cX7_where 10 = .ok (.goto 10, 3) := by decide +kernel
theorem dX7_where_13 : decode cX7_where 13 = .ok (.aload_n 0, 1) := by decide +kernel
theorem dX7_where_14 : decode cX7_where 14 = .ok (.getfield 46, 3) := by decide +kernel
theorem dX7_where_17 : decode cX7_where 17 = .ok (.invokevirtual 225, 3) := by decide +kernel
theorem dX7_where_20 : decode cX7_where 20 = .ok (.ireturn, 1) := by decide +kernel
theorem dX7_weigh_0 : decode cX7_weigh 0 = .ok (.iload_n 1, 1) := by decide +kernel
theorem dX7_weigh_1 : decode cX7_weigh 1 = .ok (.iconst 0, 1) := by decide +kernel
theorem dX7_weigh_2 : decode cX7_weigh 2 = .ok (.iconst 1, 1) := by decide +kernel
theorem dX7_weigh_3 : decode cX7_weigh 3 = .ok (.invokestatic 76, 3) := by decide +kernel
theorem dX7_weigh_6 : decode cX7_weigh 6 = .ok (.ifCond .ne 6, 3) := by decide +kernel
theorem dX7_weigh_9 : decode cX7_weigh 9 = .ok (.bipush (-2), 2) := by decide +kernel
theorem dX7_weigh_11 : decode cX7_weigh 11 = .ok (.ireturn, 1) := by decide +kernel
theorem dX7_weigh_12 : decode cX7_weigh 12 = .ok (.aload_n 0, 1) := by decide +kernel
theorem dX7_weigh_13 : decode cX7_weigh 13 = .ok (.invokevirtual 215, 3) := by decide +kernel
theorem dX7_weigh_16 : decode cX7_weigh 16 = .ok (.istore_n 2, 1) := by decide +kernel
theorem dX7_weigh_17 : decode cX7_weigh 17 = .ok (.iload_n 2, 1) := by decide +kernel
theorem dX7_weigh_18 : decode cX7_weigh 18 = .ok (.ifCond .eq 5, 3) := by decide +kernel
theorem dX7_weigh_21 : decode cX7_weigh 21 = .ok (.iload_n 2, 1) := by decide +kernel
theorem dX7_weigh_22 : decode cX7_weigh 22 = .ok (.ireturn, 1) := by decide +kernel
theorem dX7_weigh_23 : decode cX7_weigh 23 = .ok (.aload_n 0, 1) := by decide +kernel
theorem dX7_weigh_24 : decode cX7_weigh 24 = .ok (.getfield 46, 3) := by decide +kernel
theorem dX7_weigh_27 : decode cX7_weigh 27 = .ok (.invokevirtual 228, 3) := by decide +kernel
theorem dX7_weigh_30 : decode cX7_weigh 30 = .ok (.iload_n 1, 1) := by decide +kernel
theorem dX7_weigh_31 : decode cX7_weigh 31 = .ok (.ifCond .ne 13, 3) := by decide +kernel
theorem dX7_weigh_34 : decode cX7_weigh 34 = .ok (.aload_n 0, 1) := by decide +kernel
theorem dX7_weigh_35 : decode cX7_weigh 35 = .ok (.getfield 46, 3) := by decide +kernel
theorem dX7_weigh_38 : decode cX7_weigh 38 = .ok (.getfield 231, 3) := by decide +kernel
theorem dX7_weigh_41 : decode cX7_weigh 41 = .ok (.goto 10, 3) := by decide +kernel
theorem dX7_weigh_44 : decode cX7_weigh 44 = .ok (.aload_n 0, 1) := by decide +kernel
theorem dX7_weigh_45 : decode cX7_weigh 45 = .ok (.getfield 46, 3) := by decide +kernel
theorem dX7_weigh_48 : decode cX7_weigh 48 = .ok (.getfield 234, 3) := by decide +kernel
theorem dX7_weigh_51 : decode cX7_weigh 51 = .ok (.ireturn, 1) := by decide +kernel
theorem dX7_gust_0 : decode cX7_gust 0 = .ok (.aload_n 0, 1) := by decide +kernel
theorem dX7_gust_1 : decode cX7_gust 1 = .ok (.iload_n 1, 1) := by decide +kernel
theorem dX7_gust_2 : decode cX7_gust 2 = .ok (.iload_n 2, 1) := by decide +kernel
theorem dX7_gust_3 : decode cX7_gust 3 = .ok (.iload_n 3, 1) := by decide +kernel
theorem dX7_gust_4 : decode cX7_gust 4 = .ok (.invokevirtual 237, 3) := by decide +kernel
theorem dX7_gust_7 : decode cX7_gust 7 = .ok (.istore 4, 2) := by decide +kernel
theorem dX7_gust_9 : decode cX7_gust 9 = .ok (.iload 4, 2) := by decide +kernel
theorem dX7_gust_11 : decode cX7_gust 11 = .ok (.ifCond .eq 11, 3) := by decide +kernel
theorem dX7_gust_14 : decode cX7_gust 14 = .ok (.ldc2_w 240, 3) := by decide +kernel
theorem dX7_gust_17 : decode cX7_gust 17 = .ok (.iload 4, 2) := by decide +kernel
theorem dX7_gust_19 : decode cX7_gust 19 = .ok (.i2l, 1) := by decide +kernel
theorem dX7_gust_20 : decode cX7_gust 20 = .ok (.ladd, 1) := by decide +kernel
theorem dX7_gust_21 : decode cX7_gust 21 = .ok (.lreturn, 1) := by decide +kernel
theorem dX7_gust_22 : decode cX7_gust 22 = .ok (.iload_n 2, 1) := by decide +kernel
theorem dX7_gust_23 : decode cX7_gust 23 = .ok (.ifCond .ne 14, 3) := by decide +kernel
theorem dX7_gust_26 : decode cX7_gust 26 = .ok (.aload_n 0, 1) := by decide +kernel
theorem dX7_gust_27 : decode cX7_gust 27 = .ok (.getfield 53, 3) := by decide +kernel
theorem dX7_gust_30 : decode cX7_gust 30 = .ok (.iload_n 1, 1) := by decide +kernel
theorem dX7_gust_31 : decode cX7_gust 31 = .ok (.invokevirtual 242, 3) := by decide +kernel
theorem dX7_gust_34 : decode cX7_gust 34 = .ok (.goto 11, 3) := by decide +kernel
theorem dX7_gust_37 : decode cX7_gust 37 = .ok (.aload_n 0, 1) := by decide +kernel
theorem dX7_gust_38 : decode cX7_gust 38 = .ok (.getfield 53, 3) := by decide +kernel
theorem dX7_gust_41 : decode cX7_gust 41 = .ok (.iload_n 1, 1) := by decide +kernel
theorem dX7_gust_42 : decode cX7_gust 42 = .ok (.invokevirtual 246, 3) := by decide +kernel
theorem dX7_gust_45 : decode cX7_gust 45 = .ok (.iload_n 3, 1) := by decide +kernel
theorem dX7_gust_46 : decode cX7_gust 46 = .ok (.ifCond .ne 13, 3) := by decide +kernel
theorem dX7_gust_49 : decode cX7_gust 49 = .ok (.aload_n 0, 1) := by decide +kernel
theorem dX7_gust_50 : decode cX7_gust 50 = .ok (.getfield 53, 3) := by decide +kernel
theorem dX7_gust_53 : decode cX7_gust 53 = .ok (.getfield 249, 3) := by decide +kernel
theorem dX7_gust_56 : decode cX7_gust 56 = .ok (.goto 10, 3) := by decide +kernel
theorem dX7_gust_59 : decode cX7_gust 59 = .ok (.aload_n 0, 1) := by decide +kernel
theorem dX7_gust_60 : decode cX7_gust 60 = .ok (.getfield 53, 3) := by decide +kernel
theorem dX7_gust_63 : decode cX7_gust 63 = .ok (.getfield 253, 3) := by decide +kernel
theorem dX7_gust_66 : decode cX7_gust 66 = .ok (.lreturn, 1) := by decide +kernel
theorem dX7_shares_0 : decode cX7_shares 0 = .ok (.aload_n 0, 1) := by decide +kernel
theorem dX7_shares_1 : decode cX7_shares 1 = .ok (.getfield 12, 3) := by decide +kernel
theorem dX7_shares_4 : decode cX7_shares 4 = .ok (.iload_n 1, 1) := by decide +kernel
theorem dX7_shares_5 : decode cX7_shares 5 = .ok (.invokevirtual 173, 3) := by decide +kernel
theorem dX7_shares_8 : decode cX7_shares 8 = .ok (.ifCond .eq 12, 3) := by decide +kernel
theorem dX7_shares_11 : decode cX7_shares 11 = .ok (.iload_n 3, 1) := by decide +kernel
theorem dX7_shares_12 : decode cX7_shares 12 = .ok (.iconst 0, 1) := by decide +kernel
theorem dX7_shares_13 : decode cX7_shares 13 = .ok (.iconst 3, 1) := by decide +kernel
theorem dX7_shares_14 : decode cX7_shares 14 = .ok (.invokestatic 76, 3) := by decide +kernel
theorem dX7_shares_17 : decode cX7_shares 17 = .ok (.ifCond .ne 5, 3) := by decide +kernel
theorem dX7_shares_20 : decode cX7_shares 20 = .ok (.iconst (-1), 1) := by decide +kernel
theorem dX7_shares_21 : decode cX7_shares 21 = .ok (.ireturn, 1) := by decide +kernel
theorem dX7_shares_22 : decode cX7_shares 22 = .ok (.iload_n 2, 1) := by decide +kernel
theorem dX7_shares_23 : decode cX7_shares 23 = .ok (.iconst 0, 1) := by decide +kernel
theorem dX7_shares_24 : decode cX7_shares 24 = .ok (.ldc_w 256, 3) := by decide +kernel
theorem dX7_shares_27 : decode cX7_shares 27 = .ok (.invokestatic 76, 3) := by decide +kernel
theorem dX7_shares_30 : decode cX7_shares 30 = .ok (.ifCond .ne 6, 3) := by decide +kernel
theorem dX7_shares_33 : decode cX7_shares 33 = .ok (.bipush (-2), 2) := by decide +kernel
theorem dX7_shares_35 : decode cX7_shares 35 = .ok (.ireturn, 1) := by decide +kernel
theorem dX7_shares_36 : decode cX7_shares 36 = .ok (.aload_n 0, 1) := by decide +kernel
theorem dX7_shares_37 : decode cX7_shares 37 = .ok (.getfield 12, 3) := by decide +kernel
theorem dX7_shares_40 : decode cX7_shares 40 = .ok (.iload_n 1, 1) := by decide +kernel
theorem dX7_shares_41 : decode cX7_shares 41 = .ok (.aload_n 0, 1) := by decide +kernel
theorem dX7_shares_42 : decode cX7_shares 42 = .ok (.getfield 12, 3) := by decide +kernel
theorem dX7_shares_45 : decode cX7_shares 45 = .ok (.getfield 83, 3) := by decide +kernel
theorem dX7_shares_48 : decode cX7_shares 48 = .ok (.iconst 4, 1) := by decide +kernel
theorem dX7_shares_49 : decode cX7_shares 49 = .ok (.iaload, 1) := by decide +kernel
theorem dX7_shares_50 : decode cX7_shares 50 = .ok (.iconst 0, 1) := by decide +kernel
theorem dX7_shares_51 : decode cX7_shares 51 = .ok (.invokevirtual 203, 3) := by decide +kernel
theorem dX7_shares_54 : decode cX7_shares 54 = .ok (.istore 4, 2) := by decide +kernel
theorem dX7_shares_56 : decode cX7_shares 56 = .ok (.iload 4, 2) := by decide +kernel
theorem dX7_shares_58 : decode cX7_shares 58 = .ok (.ifCond .le 18, 3) := by decide +kernel
theorem dX7_shares_61 : decode cX7_shares 61 = .ok (.aload_n 0, 1) := by decide +kernel
theorem dX7_shares_62 : decode cX7_shares 62 = .ok (.getfield 12, 3) := by decide +kernel
theorem dX7_shares_65 : decode cX7_shares 65 = .ok (.getfield 83, 3) := by decide +kernel
theorem dX7_shares_68 : decode cX7_shares 68 = .ok (.iconst 0, 1) := by decide +kernel
theorem dX7_shares_69 : decode cX7_shares 69 = .ok (.iaload, 1) := by decide +kernel
theorem dX7_shares_70 : decode cX7_shares 70 = .ok (.iload 4, 2) := by decide +kernel
theorem dX7_shares_72 : decode cX7_shares 72 = .ok (.idiv, 1) := by decide +kernel
theorem dX7_shares_73 : decode cX7_shares 73 = .ok (.goto 4, 3) := by decide +kernel
theorem dX7_shares_76 : decode cX7_shares 76 = .ok (.iconst 0, 1) := by decide +kernel
theorem dX7_shares_77 : decode cX7_shares 77 = .ok (.istore 5, 2) := by decide +kernel
theorem dX7_shares_79 : decode cX7_shares 79 = .ok (.aload_n 0, 1) := by decide +kernel
theorem dX7_shares_80 : decode cX7_shares 80 = .ok (.iload 5, 2) := by decide +kernel
theorem dX7_shares_82 : decode cX7_shares 82 = .ok (.iload_n 2, 1) := by decide +kernel
theorem dX7_shares_83 : decode cX7_shares 83 = .ok (.iload_n 3, 1) := by decide +kernel
theorem dX7_shares_84 : decode cX7_shares 84 = .ok (.invokevirtual 257, 3) := by decide +kernel
theorem dX7_shares_87 : decode cX7_shares 87 = .ok (.ireturn, 1) := by decide +kernel
theorem dX7_week_0 : decode cX7_week 0 = .ok (.iload_n 1, 1) := by decide +kernel
theorem dX7_week_1 : decode cX7_week 1 = .ok (.iconst 0, 1) := by decide +kernel
theorem dX7_week_2 : decode cX7_week 2 = .ok (.sipush 9999, 3) := by decide +kernel
theorem dX7_week_5 : decode cX7_week 5 = .ok (.invokestatic 76, 3) := by decide +kernel
theorem dX7_week_8 : decode cX7_week 8 = .ok (.ifCond .eq 22, 3) := by decide +kernel
theorem dX7_week_11 : decode cX7_week 11 = .ok (.iload_n 2, 1) := by decide +kernel
theorem dX7_week_12 : decode cX7_week 12 = .ok (.iconst 1, 1) := by decide +kernel
theorem dX7_week_13 : decode cX7_week 13 = .ok (.bipush 50, 2) := by decide +kernel
theorem dX7_week_15 : decode cX7_week 15 = .ok (.invokestatic 76, 3) := by decide +kernel
theorem dX7_week_18 : decode cX7_week 18 = .ok (.ifCond .eq 12, 3) := by decide +kernel
theorem dX7_week_21 : decode cX7_week 21 = .ok (.iload_n 3, 1) := by decide +kernel
theorem dX7_week_22 : decode cX7_week 22 = .ok (.iconst 0, 1) := by decide +kernel
theorem dX7_week_23 : decode cX7_week 23 = .ok (.iconst 2, 1) := by decide +kernel
theorem dX7_week_24 : decode cX7_week 24 = .ok (.invokestatic 76, 3) := by decide +kernel
theorem dX7_week_27 : decode cX7_week 27 = .ok (.ifCond .ne 6, 3) := by decide +kernel
theorem dX7_week_30 : decode cX7_week 30 = .ok (.bipush (-2), 2) := by decide +kernel
theorem dX7_week_32 : decode cX7_week 32 = .ok (.ireturn, 1) := by decide +kernel
theorem dX7_week_33 : decode cX7_week 33 = .ok (.aload_n 0, 1) := by decide +kernel
theorem dX7_week_34 : decode cX7_week 34 = .ok (.getfield 60, 3) := by decide +kernel
theorem dX7_week_37 : decode cX7_week 37 = .ok (.iload_n 1, 1) := by decide +kernel
theorem dX7_week_38 : decode cX7_week 38 = .ok (.iload_n 2, 1) := by decide +kernel
theorem dX7_week_39 : decode cX7_week 39 = .ok (.invokevirtual 260, 3) := by decide +kernel
theorem dX7_week_42 : decode cX7_week 42 = .ok (.iload_n 3, 1) := by decide +kernel
theorem dX7_week_43 : decode cX7_week 43 = .ok (.ifCond .ne 11, 3) := by decide +kernel
theorem dX7_week_46 : decode cX7_week 46 = .ok (.aload_n 0, 1) := by decide +kernel
theorem dX7_week_47 : decode cX7_week 47 = .ok (.getfield 60, 3) := by decide +kernel
theorem dX7_week_50 : decode cX7_week 50 = .ok (.getfield 264, 3) := by decide +kernel
theorem dX7_week_53 : decode cX7_week 53 = .ok (.ireturn, 1) := by decide +kernel
theorem dX7_week_54 : decode cX7_week 54 = .ok (.iload_n 3, 1) := by decide +kernel
theorem dX7_week_55 : decode cX7_week 55 = .ok (.iconst 1, 1) := by decide +kernel
theorem dX7_week_56 : decode cX7_week 56 = .ok (.if_icmp .ne 13, 3) := by decide +kernel
theorem dX7_week_59 : decode cX7_week 59 = .ok (.aload_n 0, 1) := by decide +kernel
theorem dX7_week_60 : decode cX7_week 60 = .ok (.getfield 60, 3) := by decide +kernel
theorem dX7_week_63 : decode cX7_week 63 = .ok (.getfield 265, 3) := by decide +kernel
theorem dX7_week_66 : decode cX7_week 66 = .ok (.goto 10, 3) := by decide +kernel
theorem dX7_week_69 : decode cX7_week 69 = .ok (.aload_n 0, 1) := by decide +kernel
theorem dX7_week_70 : decode cX7_week 70 = .ok (.getfield 60, 3) := by decide +kernel
theorem dX7_week_73 : decode cX7_week 73 = .ok (.getfield 266, 3) := by decide +kernel
theorem dX7_week_76 : decode cX7_week 76 = .ok (.ireturn, 1) := by decide +kernel
theorem dX7_image_0 : decode cX7_image 0 = .ok (.iload_n 1, 1) := by decide +kernel
theorem dX7_image_1 : decode cX7_image 1 = .ok (.iconst 0, 1) := by decide +kernel
theorem dX7_image_2 : decode cX7_image 2 = .ok (.iconst 1, 1) := by decide +kernel
theorem dX7_image_3 : decode cX7_image 3 = .ok (.invokestatic 76, 3) := by decide +kernel
theorem dX7_image_6 : decode cX7_image 6 = .ok (.ifCond .ne 6, 3) := by decide +kernel
theorem dX7_image_9 : decode cX7_image 9 = .ok (.bipush (-2), 2) := by decide +kernel
theorem dX7_image_11 : decode cX7_image 11 = .ok (.ireturn, 1) := by decide +kernel
theorem dX7_image_12 : decode cX7_image 12 = .ok (.aload_n 0, 1) := by decide +kernel
theorem dX7_image_13 : decode cX7_image 13 = .ok (.getfield 64, 3) := by decide +kernel
theorem dX7_image_16 : decode cX7_image 16 = .ok (.iload_n 1, 1) := by decide +kernel
theorem dX7_image_17 : decode cX7_image 17 = .ok (.aaload, 1) := by decide +kernel
theorem dX7_image_18 : decode cX7_image 18 = .ok (.aload_n 0, 1) := by decide +kernel
theorem dX7_image_19 : decode cX7_image 19 = .ok (.getfield 12, 3) := by decide +kernel
theorem dX7_image_22 : decode cX7_image 22 = .ok (.invokevirtual 269, 3) := by decide +kernel
theorem dX7_image_25 : decode cX7_image 25 = .ok (.aload_n 0, 1) := by decide +kernel
theorem dX7_image_26 : decode cX7_image 26 = .ok (.getfield 68, 3) := by decide +kernel
theorem dX7_image_29 : decode cX7_image 29 = .ok (.iload_n 1, 1) := by decide +kernel
theorem dX7_image_30 : decode cX7_image 30 = .ok (.iconst 1, 1) := by decide +kernel
theorem dX7_image_31 : decode cX7_image 31 = .ok (.bastore, 1) := by decide +kernel
theorem dX7_image_32 : decode cX7_image 32 = .ok (.iconst 1, 1) := by decide +kernel
theorem dX7_image_33 : decode cX7_image 33 = .ok (.ireturn, 1) := by decide +kernel
theorem dX7_restore_0 : decode cX7_restore 0 = .ok (.iload_n 1, 1) := by decide +kernel
theorem dX7_restore_1 : decode cX7_restore 1 = .ok (.iconst 0, 1) := by decide +kernel
theorem dX7_restore_2 : decode cX7_restore 2 = .ok (.iconst 1, 1) := by decide +kernel
theorem dX7_restore_3 : decode cX7_restore 3 = .ok (.invokestatic 76, 3) := by decide +kernel
theorem dX7_restore_6 : decode cX7_restore 6 = .ok (.ifCond .ne 6, 3) := by decide +kernel
theorem dX7_restore_9 : decode cX7_restore 9 = .ok (.bipush (-2), 2) := by decide +kernel
theorem dX7_restore_11 : decode cX7_restore 11 = .ok (.ireturn, 1) := by decide +kernel
theorem dX7_restore_12 : decode cX7_restore 12 = .ok (.aload_n 0, 1) := by decide +kernel
theorem dX7_restore_13 : decode cX7_restore 13 = .ok (.getfield 68, 3) := by decide +kernel
theorem dX7_restore_16 : decode cX7_restore 16 = .ok (.iload_n 1, 1) := by decide +kernel
theorem dX7_restore_17 : decode cX7_restore 17 = .ok (.baload, 1) := by decide +kernel
theorem dX7_restore_18 : decode cX7_restore 18 = .ok (.ifCond .ne 6, 3) := by decide +kernel
theorem dX7_restore_21 : decode cX7_restore 21 = .ok (.bipush (-3), 2) := by decide +kernel
theorem dX7_restore_23 : decode cX7_restore 23 = .ok (.ireturn, 1) := by decide +kernel
theorem dX7_restore_24 : decode cX7_restore 24 = .ok (.aload_n 0, 1) := by decide +kernel
theorem dX7_restore_25 : decode cX7_restore 25 = .ok (.getfield 12, 3) := by decide +kernel
theorem dX7_restore_28 : decode cX7_restore 28 = .ok (.aload_n 0, 1) := by decide +kernel
theorem dX7_restore_29 : decode cX7_restore 29 = .ok (.getfield 64, 3) := by decide +kernel
theorem dX7_restore_32 : decode cX7_restore 32 = .ok (.iload_n 1, 1) := by decide +kernel
theorem dX7_restore_33 : decode cX7_restore 33 = .ok (.aaload, 1) := by decide +kernel
theorem dX7_restore_34 : decode cX7_restore 34 = .ok (.invokevirtual 269, 3) := by decide +kernel
theorem dX7_restore_37 : decode cX7_restore 37 = .ok (.iconst 1, 1) := by decide +kernel
theorem dX7_restore_38 : decode cX7_restore 38 = .ok (.ireturn, 1) := by decide +kernel
theorem dX7_told_0 : decode cX7_told 0 = .ok (.iload_n 1, 1) := by decide +kernel
theorem dX7_told_1 : decode cX7_told 1 = .ok (.iconst 1, 1) := by decide +kernel
theorem dX7_told_2 : decode cX7_told 2 = .ok (.iconst 5, 1) := by decide +kernel
theorem dX7_told_3 : decode cX7_told 3 = .ok (.invokestatic 76, 3) := by decide +kernel
theorem dX7_told_6 : decode cX7_told 6 = .ok (.ifCond .eq 15, 3) := by decide +kernel
theorem dX7_told_9 : decode cX7_told 9 = .ok (.aload_n 0, 1) := by decide +kernel
theorem dX7_told_10 : decode cX7_told 10 = .ok (.getfield 12, 3) := by decide +kernel
theorem dX7_told_13 : decode cX7_told 13 = .ok (.getfield 83, 3) := by decide +kernel
theorem dX7_told_16 : decode cX7_told 16 = .ok (.iload_n 1, 1) := by decide +kernel
theorem dX7_told_17 : decode cX7_told 17 = .ok (.iconst 1, 1) := by decide +kernel
theorem dX7_told_18 : decode cX7_told 18 = .ok (.isub, 1) := by decide +kernel
theorem dX7_told_19 : decode cX7_told 19 = .ok (.iaload, 1) := by decide +kernel
theorem dX7_told_20 : decode cX7_told 20 = .ok (.ireturn, 1) := by decide +kernel
theorem dX7_told_21 : decode cX7_told 21 = .ok (.iload_n 1, 1) := by decide +kernel
theorem dX7_told_22 : decode cX7_told 22 = .ok (.bipush 20, 2) := by decide +kernel
theorem dX7_told_24 : decode cX7_told 24 = .ok (.bipush 33, 2) := by decide +kernel
theorem dX7_told_26 : decode cX7_told 26 = .ok (.invokestatic 76, 3) := by decide +kernel
theorem dX7_told_29 : decode cX7_told 29 = .ok (.ifCond .eq 37, 3) := by decide +kernel
theorem dX7_told_32 : decode cX7_told 32 = .ok (.iload_n 1, 1) := by decide +kernel
theorem dX7_told_33 : decode cX7_told 33 = .ok (.bipush 20, 2) := by decide +kernel
theorem dX7_told_35 : decode cX7_told 35 = .ok (.isub, 1) := by decide +kernel
theorem dX7_told_36 : decode cX7_told 36 = .ok (.istore_n 2, 1) := by decide +kernel
theorem dX7_told_37 : decode cX7_told 37 = .ok (.aload_n 0, 1) := by decide +kernel
theorem dX7_told_38 : decode cX7_told 38 = .ok (.getfield 12, 3) := by decide +kernel
theorem dX7_told_41 : decode cX7_told 41 = .ok (.getfield 90, 3) := by decide +kernel
theorem dX7_told_44 : decode cX7_told 44 = .ok (.iload_n 2, 1) := by decide +kernel
theorem dX7_told_45 : decode cX7_told 45 = .ok (.iaload, 1) := by decide +kernel
theorem dX7_told_46 : decode cX7_told 46 = .ok (.aload_n 0, 1) := by decide +kernel
theorem dX7_told_47 : decode cX7_told 47 = .ok (.getfield 12, 3) := by decide +kernel
theorem dX7_told_50 : decode cX7_told 50 = .ok (.getfield 93, 3) := by decide +kernel
theorem dX7_told_53 : decode cX7_told 53 = .ok (.iload_n 2, 1) := by decide +kernel
theorem dX7_told_54 : decode cX7_told 54 = .ok (.baload, 1) := by decide +kernel
theorem dX7_told_55 : decode cX7_told 55 = .ok (.ifCond .eq 8, 3) := by decide +kernel
theorem dX7_told_58 : decode cX7_told 58 = .ok (.bipush 10, 2) := by decide +kernel
theorem dX7_told_60 : decode cX7_told 60 = .ok (.goto 4, 3) := by decide +kernel
theorem dX7_told_63 : decode cX7_told 63 = .ok (.iconst 0, 1) := by decide +kernel
theorem dX7_told_64 : decode cX7_told 64 = .ok (.iadd, 1) := by decide +kernel
theorem dX7_told_65 : decode cX7_told 65 = .ok (.ireturn, 1) := by decide +kernel
theorem dX7_told_66 : decode cX7_told 66 = .ok (.iload_n 1, 1) := by decide +kernel
theorem dX7_told_67 : decode cX7_told 67 = .ok (.bipush 100, 2) := by decide +kernel
theorem dX7_told_69 : decode cX7_told 69 = .ok (.if_icmp .lt 18, 3) := by decide +kernel
theorem dX7_told_72 : decode cX7_told 72 = .ok (.aload_n 0, 1) := by decide +kernel
theorem dX7_told_73 : decode cX7_told 73 = .ok (.iload_n 1, 1) := by decide +kernel
theorem dX7_told_74 : decode cX7_told 74 = .ok (.bipush 100, 2) := by decide +kernel
theorem dX7_told_76 : decode cX7_told 76 = .ok (.idiv, 1) := by decide +kernel
theorem dX7_told_77 : decode cX7_told 77 = .ok (.iconst 1, 1) := by decide +kernel
theorem dX7_told_78 : decode cX7_told 78 = .ok (.isub, 1) := by decide +kernel
theorem dX7_told_79 : decode cX7_told 79 = .ok (.iload_n 1, 1) := by decide +kernel
theorem dX7_told_80 : decode cX7_told 80 = .ok (.bipush 100, 2) := by decide +kernel
theorem dX7_told_82 : decode cX7_told 82 = .ok (.irem, 1) := by decide +kernel
theorem dX7_told_83 : decode cX7_told 83 = .ok (.invokevirtual 272, 3) := by decide +kernel
theorem dX7_told_86 : decode cX7_told 86 = .ok (.ireturn, 1) := by decide +kernel
theorem dX7_told_87 : decode cX7_told 87 = .ok (.iload_n 1, 1) := by decide +kernel
theorem dX7_told_88 : decode cX7_told 88 = .ok (.tableswitch 84 0 8 #[52, 84, 84, 84, 84, 84, 60, 68, 76], 52) := by decide +kernel
theorem dX7_told_140 : decode cX7_told 140 = .ok (.aload_n 0, 1) := by decide +kernel
theorem dX7_told_141 : decode cX7_told 141 = .ok (.getfield 19, 3) := by decide +kernel
theorem dX7_told_144 : decode cX7_told 144 = .ok (.getfield 115, 3) := by decide +kernel
theorem dX7_told_147 : decode cX7_told 147 = .ok (.ireturn, 1) := by decide +kernel
theorem dX7_told_148 : decode cX7_told 148 = .ok (.aload_n 0, 1) := by decide +kernel
theorem dX7_told_149 : decode cX7_told 149 = .ok (.getfield 12, 3) := by decide +kernel
theorem dX7_told_152 : decode cX7_told 152 = .ok (.getfield 96, 3) := by decide +kernel
theorem dX7_told_155 : decode cX7_told 155 = .ok (.ireturn, 1) := by decide +kernel
theorem dX7_told_156 : decode cX7_told 156 = .ok (.aload_n 0, 1) := by decide +kernel
theorem dX7_told_157 : decode cX7_told 157 = .ok (.getfield 12, 3) := by decide +kernel
theorem dX7_told_160 : decode cX7_told 160 = .ok (.getfield 206, 3) := by decide +kernel
theorem dX7_told_163 : decode cX7_told 163 = .ok (.ireturn, 1) := by decide +kernel
theorem dX7_told_164 : decode cX7_told 164 = .ok (.aload_n 0, 1) := by decide +kernel
theorem dX7_told_165 : decode cX7_told 165 = .ok (.getfield 12, 3) := by decide +kernel
theorem dX7_told_168 : decode cX7_told 168 = .ok (.invokevirtual 275, 3) := by decide +kernel
theorem dX7_told_171 : decode cX7_told 171 = .ok (.ireturn, 1) := by decide +kernel
theorem dX7_told_172 : decode cX7_told 172 = .ok (.bipush (-2), 2) := by decide +kernel
theorem dX7_told_174 : decode cX7_told 174 = .ok (.ireturn, 1) := by decide +kernel
theorem dX7_isIn_0 : decode cX7_isIn 0 = .ok (.iload_n 0, 1) := by decide +kernel
theorem dX7_isIn_1 : decode cX7_isIn 1 = .ok (.iload_n 1, 1) := by decide +kernel
theorem dX7_isIn_2 : decode cX7_isIn 2 = .ok (.if_icmp .lt 12, 3) := by decide +kernel
theorem dX7_isIn_5 : decode cX7_isIn 5 = .ok (.iload_n 0, 1) := by decide +kernel
theorem dX7_isIn_6 : decode cX7_isIn 6 = .ok (.iload_n 2, 1) := by decide +kernel
theorem dX7_isIn_7 : decode cX7_isIn 7 = .ok (.if_icmp .gt 7, 3) := by decide +kernel
theorem dX7_isIn_10 : decode cX7_isIn 10 = .ok (.iconst 1, 1) := by decide +kernel
theorem dX7_isIn_11 : decode cX7_isIn 11 = .ok (.goto 4, 3) := by decide +kernel
theorem dX7_isIn_14 : decode cX7_isIn 14 = .ok (.iconst 0, 1) := by decide +kernel
theorem dX7_isIn_15 : decode cX7_isIn 15 = .ok (.ireturn, 1) := by decide +kernel
theorem dX7_isDay_0 : decode cX7_isDay 0 = .ok (.iload_n 0, 1) := by decide +kernel
theorem dX7_isDay_1 : decode cX7_isDay 1 = .ok (.iconst 0, 1) := by decide +kernel
theorem dX7_isDay_2 : decode cX7_isDay 2 = .ok (.bipush 13, 2) := by decide +kernel
theorem dX7_isDay_4 : decode cX7_isDay 4 = .ok (.invokestatic 76, 3) := by decide +kernel
theorem dX7_isDay_7 : decode cX7_isDay 7 = .ok (.ireturn, 1) := by decide +kernel
theorem dX7_planRefusal_0 : decode cX7_planRefusal 0 = .ok (.aload_n 0, 1) := by decide +kernel
theorem dX7_planRefusal_1 : decode cX7_planRefusal 1 = .ok (.getfield 19, 3) := by decide +kernel
theorem dX7_planRefusal_4 : decode cX7_planRefusal 4 = .ok (.invokevirtual 121, 3) := by decide +kernel
theorem dX7_planRefusal_7 : decode cX7_planRefusal 7 = .ok (.aload_n 0, 1) := by decide +kernel
theorem dX7_planRefusal_8 : decode cX7_planRefusal 8 = .ok (.getfield 19, 3) := by decide +kernel
theorem dX7_planRefusal_11 : decode cX7_planRefusal 11 = .ok (.getfield 124, 3) := by decide +kernel
theorem dX7_planRefusal_14 : decode cX7_planRefusal 14 = .ok (.bipush (-6), 2) := by decide +kernel
theorem dX7_planRefusal_16 : decode cX7_planRefusal 16 = .ok (.if_icmp .eq 6, 3) := by decide +kernel
theorem dX7_planRefusal_19 : decode cX7_planRefusal 19 = .ok (.bipush (-5), 2) := by decide +kernel
theorem dX7_planRefusal_21 : decode cX7_planRefusal 21 = .ok (.ireturn, 1) := by decide +kernel
theorem dX7_planRefusal_22 : decode cX7_planRefusal 22 = .ok (.aload_n 0, 1) := by decide +kernel
theorem dX7_planRefusal_23 : decode cX7_planRefusal 23 = .ok (.getfield 28, 3) := by decide +kernel
theorem dX7_planRefusal_26 : decode cX7_planRefusal 26 = .ok (.iload_n 1, 1) := by decide +kernel
theorem dX7_planRefusal_27 : decode cX7_planRefusal 27 = .ok (.invokevirtual 278, 3) := by decide +kernel
theorem dX7_planRefusal_30 : decode cX7_planRefusal 30 = .ok (.aload_n 0, 1) := by decide +kernel
theorem dX7_planRefusal_31 : decode cX7_planRefusal 31 = .ok (.getfield 28, 3) := by decide +kernel
theorem dX7_planRefusal_34 : decode cX7_planRefusal 34 = .ok (.getfield 131, 3) := by decide +kernel
theorem dX7_planRefusal_37 : decode cX7_planRefusal 37 = .ok (.bipush (-6), 2) := by decide +kernel
theorem dX7_planRefusal_39 : decode cX7_planRefusal 39 = .ok (.if_icmp .eq 8, 3) := by decide +kernel
theorem dX7_planRefusal_42 : decode cX7_planRefusal 42 = .ok (.bipush (-3), 2) := by decide +kernel
theorem dX7_planRefusal_44 : decode cX7_planRefusal 44 = .ok (.goto 4, 3) := by decide +kernel
theorem dX7_planRefusal_47 : decode cX7_planRefusal 47 = .ok (.iconst 0, 1) := by decide +kernel
theorem dX7_planRefusal_48 : decode cX7_planRefusal 48 = .ok (.ireturn, 1) := by decide +kernel
theorem dX7_orderRefusal_0 : decode cX7_orderRefusal 0 = .ok (.iload_n 1, 1) := by decide +kernel
theorem dX7_orderRefusal_1 : decode cX7_orderRefusal 1 = .ok (.iconst 0, 1) := by decide +kernel
theorem dX7_orderRefusal_2 : decode cX7_orderRefusal 2 = .ok (.ldc_w 282, 3) := by decide +kernel
theorem dX7_orderRefusal_5 : decode cX7_orderRefusal 5 = .ok (.invokestatic 76, 3) := by decide +kernel
theorem dX7_orderRefusal_8 : decode cX7_orderRefusal 8 = .ok (.ifCond .ne 6, 3) := by decide +kernel
theorem dX7_orderRefusal_11 : decode cX7_orderRefusal 11 = .ok (.bipush (-2), 2) := by decide +kernel
theorem dX7_orderRefusal_13 : decode cX7_orderRefusal 13 = .ok (.ireturn, 1) := by decide +kernel
theorem dX7_orderRefusal_14 : decode cX7_orderRefusal 14 = .ok (.aload_n 0, 1) := by decide +kernel
theorem dX7_orderRefusal_15 : decode cX7_orderRefusal 15 = .ok (.getfield 37, 3) := by decide +kernel
theorem dX7_orderRefusal_18 : decode cX7_orderRefusal 18 = .ok (.iload_n 1, 1) := by decide +kernel
theorem dX7_orderRefusal_19 : decode cX7_orderRefusal 19 = .ok (.invokevirtual 283, 3) := by decide +kernel
theorem dX7_orderRefusal_22 : decode cX7_orderRefusal 22 = .ok (.iload_n 2, 1) := by decide +kernel
theorem dX7_orderRefusal_23 : decode cX7_orderRefusal 23 = .ok (.invokestatic 86, 3) := by decide +kernel
theorem dX7_orderRefusal_26 : decode cX7_orderRefusal 26 = .ok (.ifCond .eq 17, 3) := by decide +kernel
theorem dX7_orderRefusal_29 : decode cX7_orderRefusal 29 = .ok (.aload_n 0, 1) := by decide +kernel
theorem dX7_orderRefusal_30 : decode cX7_orderRefusal 30 = .ok (.getfield 37, 3) := by decide +kernel
theorem dX7_orderRefusal_33 : decode cX7_orderRefusal 33 = .ok (.invokevirtual 285, 3) := by decide +kernel
theorem dX7_orderRefusal_36 : decode cX7_orderRefusal 36 = .ok (.ifCond .eq 7, 3) := by decide +kernel
theorem dX7_orderRefusal_39 : decode cX7_orderRefusal 39 = .ok (.iconst 0, 1) := by decide +kernel
theorem dX7_orderRefusal_40 : decode cX7_orderRefusal 40 = .ok (.goto 4, 3) := by decide +kernel
theorem dX7_orderRefusal_43 : decode cX7_orderRefusal 43 = .ok (.iconst (-1), 1) := by decide +kernel
theorem dX7_orderRefusal_44 : decode cX7_orderRefusal 44 = .ok (.ireturn, 1) := by decide +kernel
theorem dX7_spreadRefusal_0 : decode cX7_spreadRefusal 0 = .ok (.aload_n 0, 1) := by decide +kernel
theorem dX7_spreadRefusal_1 : decode cX7_spreadRefusal 1 = .ok (.iload_n 1, 1) := by decide +kernel
theorem dX7_spreadRefusal_2 : decode cX7_spreadRefusal 2 = .ok (.iload_n 2, 1) := by decide +kernel
theorem dX7_spreadRefusal_3 : decode cX7_spreadRefusal 3 = .ok (.invokevirtual 184, 3) := by decide +kernel
theorem dX7_spreadRefusal_6 : decode cX7_spreadRefusal 6 = .ok (.istore_n 3, 1) := by decide +kernel
theorem dX7_spreadRefusal_7 : decode cX7_spreadRefusal 7 = .ok (.iload_n 3, 1) := by decide +kernel
theorem dX7_spreadRefusal_8 : decode cX7_spreadRefusal 8 = .ok (.ifCond .eq 5, 3) := by decide +kernel
theorem dX7_spreadRefusal_11 : decode cX7_spreadRefusal 11 = .ok (.iload_n 3, 1) := by decide +kernel
theorem dX7_spreadRefusal_12 : decode cX7_spreadRefusal 12 = .ok (.ireturn, 1) := by decide +kernel
theorem dX7_spreadRefusal_13 : decode cX7_spreadRefusal 13 = .ok (.iload_n 2, 1) := by decide +kernel
theorem dX7_spreadRefusal_14 : decode cX7_spreadRefusal 14 = .ok (.aload_n 0, 1) := by decide +kernel
theorem dX7_spreadRefusal_15 : decode cX7_spreadRefusal 15 = .ok (.getfield 12, 3) := by decide +kernel
theorem dX7_spreadRefusal_18 : decode cX7_spreadRefusal 18 = .ok (.getfield 83, 3) := by decide +kernel
theorem dX7_spreadRefusal_21 : decode cX7_spreadRefusal 21 = .ok (.iconst 4, 1) := by decide +kernel
theorem dX7_spreadRefusal_22 : decode cX7_spreadRefusal 22 = .ok (.iaload, 1) := by decide +kernel
theorem dX7_spreadRefusal_23 : decode cX7_spreadRefusal 23 = .ok (.if_icmp .ge 5, 3) := by decide +kernel
theorem dX7_spreadRefusal_26 : decode cX7_spreadRefusal 26 = .ok (.iconst (-1), 1) := by decide +kernel
theorem dX7_spreadRefusal_27 : decode cX7_spreadRefusal 27 = .ok (.ireturn, 1) := by decide +kernel
theorem dX7_spreadRefusal_28 : decode cX7_spreadRefusal 28 = .ok (.aload_n 0, 1) := by decide +kernel
theorem dX7_spreadRefusal_29 : decode cX7_spreadRefusal 29 = .ok (.getfield 37, 3) := by decide +kernel
theorem dX7_spreadRefusal_32 : decode cX7_spreadRefusal 32 = .ok (.getfield 288, 3) := by decide +kernel
theorem dX7_spreadRefusal_35 : decode cX7_spreadRefusal 35 = .ok (.bipush 12, 2) := by decide +kernel
theorem dX7_spreadRefusal_37 : decode cX7_spreadRefusal 37 = .ok (.if_icmp .le 8, 3) := by decide +kernel
theorem dX7_spreadRefusal_40 : decode cX7_spreadRefusal 40 = .ok (.bipush (-4), 2) := by decide +kernel
theorem dX7_spreadRefusal_42 : decode cX7_spreadRefusal 42 = .ok (.goto 4, 3) := by decide +kernel
theorem dX7_spreadRefusal_45 : decode cX7_spreadRefusal 45 = .ok (.iconst 0, 1) := by decide +kernel
theorem dX7_spreadRefusal_46 : decode cX7_spreadRefusal 46 = .ok (.ireturn, 1) := by decide +kernel
theorem dX7_searchRefusal_0 : decode cX7_searchRefusal 0 = .ok (.aload_n 0, 1) := by decide +kernel
theorem dX7_searchRefusal_1 : decode cX7_searchRefusal 1 = .ok (.iconst 0, 1) := by decide +kernel
theorem dX7_searchRefusal_2 : decode cX7_searchRefusal 2 = .ok (.invokevirtual 127, 3) := by decide +kernel
theorem dX7_searchRefusal_5 : decode cX7_searchRefusal 5 = .ok (.istore_n 1, 1) := by decide +kernel
theorem dX7_searchRefusal_6 : decode cX7_searchRefusal 6 = .ok (.iload_n 1, 1) := by decide +kernel
theorem dX7_searchRefusal_7 : decode cX7_searchRefusal 7 = .ok (.ifCond .ne 10, 3) := by decide +kernel
theorem dX7_searchRefusal_10 : decode cX7_searchRefusal 10 = .ok (.aload_n 0, 1) := by decide +kernel
theorem dX7_searchRefusal_11 : decode cX7_searchRefusal 11 = .ok (.getfield 46, 3) := by decide +kernel
theorem dX7_searchRefusal_14 : decode cX7_searchRefusal 14 = .ok (.invokevirtual 291, 3) := by decide +kernel
theorem dX7_searchRefusal_17 : decode cX7_searchRefusal 17 = .ok (.iload_n 1, 1) := by decide +kernel
theorem dX7_searchRefusal_18 : decode cX7_searchRefusal 18 = .ok (.ireturn, 1) := by decide +kernel
theorem dX7_gustRefusal_0 : decode cX7_gustRefusal 0 = .ok (.iload_n 1, 1) := by decide +kernel
theorem dX7_gustRefusal_1 : decode cX7_gustRefusal 1 = .ok (.iconst 0, 1) := by decide +kernel
theorem dX7_gustRefusal_2 : decode cX7_gustRefusal 2 = .ok (.bipush 10, 2) := by decide +kernel
theorem dX7_gustRefusal_4 : decode cX7_gustRefusal 4 = .ok (.invokestatic 76, 3) := by decide +kernel
theorem dX7_gustRefusal_7 : decode cX7_gustRefusal 7 = .ok (.ifCond .eq 21, 3) := by decide +kernel
theorem dX7_gustRefusal_10 : decode cX7_gustRefusal 10 = .ok (.iload_n 2, 1) := by decide +kernel
theorem dX7_gustRefusal_11 : decode cX7_gustRefusal 11 = .ok (.iconst 0, 1) := by decide +kernel
theorem dX7_gustRefusal_12 : decode cX7_gustRefusal 12 = .ok (.iconst 1, 1) := by decide +kernel
theorem dX7_gustRefusal_13 : decode cX7_gustRefusal 13 = .ok (.invokestatic 76, 3) := by decide +kernel
theorem dX7_gustRefusal_16 : decode cX7_gustRefusal 16 = .ok (.ifCond .eq 12, 3) := by decide +kernel
theorem dX7_gustRefusal_19 : decode cX7_gustRefusal 19 = .ok (.iload_n 3, 1) := by decide +kernel
theorem dX7_gustRefusal_20 : decode cX7_gustRefusal 20 = .ok (.iconst 0, 1) := by decide +kernel
theorem dX7_gustRefusal_21 : decode cX7_gustRefusal 21 = .ok (.iconst 1, 1) := by decide +kernel
theorem dX7_gustRefusal_22 : decode cX7_gustRefusal 22 = .ok (.invokestatic 76, 3) := by decide +kernel
theorem dX7_gustRefusal_25 : decode cX7_gustRefusal 25 = .ok (.ifCond .ne 6, 3) := by decide +kernel
theorem dX7_gustRefusal_28 : decode cX7_gustRefusal 28 = .ok (.bipush (-2), 2) := by decide +kernel
theorem dX7_gustRefusal_30 : decode cX7_gustRefusal 30 = .ok (.ireturn, 1) := by decide +kernel
theorem dX7_gustRefusal_31 : decode cX7_gustRefusal 31 = .ok (.aload_n 0, 1) := by decide +kernel
theorem dX7_gustRefusal_32 : decode cX7_gustRefusal 32 = .ok (.iconst 1, 1) := by decide +kernel
theorem dX7_gustRefusal_33 : decode cX7_gustRefusal 33 = .ok (.invokevirtual 127, 3) := by decide +kernel
theorem dX7_gustRefusal_36 : decode cX7_gustRefusal 36 = .ok (.istore 4, 2) := by decide +kernel
theorem dX7_gustRefusal_38 : decode cX7_gustRefusal 38 = .ok (.iload 4, 2) := by decide +kernel
theorem dX7_gustRefusal_40 : decode cX7_gustRefusal 40 = .ok (.ifCond .eq 6, 3) := by decide +kernel
theorem dX7_gustRefusal_43 : decode cX7_gustRefusal 43 = .ok (.iload 4, 2) := by decide +kernel
theorem dX7_gustRefusal_45 : decode cX7_gustRefusal 45 = .ok (.ireturn, 1) := by decide +kernel
theorem dX7_gustRefusal_46 : decode cX7_gustRefusal 46 = .ok (.aload_n 0, 1) := by decide +kernel
theorem dX7_gustRefusal_47 : decode cX7_gustRefusal 47 = .ok (.getfield 53, 3) := by decide +kernel
theorem dX7_gustRefusal_50 : decode cX7_gustRefusal 50 = .ok (.invokevirtual 294, 3) := by decide +kernel
theorem dX7_gustRefusal_53 : decode cX7_gustRefusal 53 = .ok (.bipush 8, 2) := by decide +kernel
theorem dX7_gustRefusal_55 : decode cX7_gustRefusal 55 = .ok (.if_icmp .le 8, 3) := by decide +kernel
theorem dX7_gustRefusal_58 : decode cX7_gustRefusal 58 = .ok (.bipush (-4), 2) := by decide +kernel
theorem dX7_gustRefusal_60 : decode cX7_gustRefusal 60 = .ok (.goto 4, 3) := by decide +kernel
theorem dX7_gustRefusal_63 : decode cX7_gustRefusal 63 = .ok (.iconst 0, 1) := by decide +kernel
theorem dX7_gustRefusal_64 : decode cX7_gustRefusal 64 = .ok (.ireturn, 1) := by decide +kernel
theorem dX7_deal_0 : decode cX7_deal 0 = .ok (.iload_n 2, 1) := by decide +kernel
theorem dX7_deal_1 : decode cX7_deal 1 = .ok (.istore 4, 2) := by decide +kernel
theorem dX7_deal_3 : decode cX7_deal 3 = .ok (.iconst 3, 1) := by decide +kernel
theorem dX7_deal_4 : decode cX7_deal 4 = .ok (.istore 5, 2) := by decide +kernel
theorem dX7_deal_6 : decode cX7_deal 6 = .ok (.iload 5, 2) := by decide +kernel
theorem dX7_deal_8 : decode cX7_deal 8 = .ok (.ifCond .lt 28, 3) := by decide +kernel
theorem dX7_deal_11 : decode cX7_deal 11 = .ok (.aload_n 0, 1) := by decide +kernel
theorem dX7_deal_12 : decode cX7_deal 12 = .ok (.getfield 72, 3) := by decide +kernel
theorem dX7_deal_15 : decode cX7_deal 15 = .ok (.iload 5, 2) := by decide +kernel
theorem dX7_deal_17 : decode cX7_deal 17 = .ok (.iload 4, 2) := by decide +kernel
theorem dX7_deal_19 : decode cX7_deal 19 = .ok (.bipush 100, 2) := by decide +kernel
theorem dX7_deal_21 : decode cX7_deal 21 = .ok (.irem, 1) := by decide +kernel
theorem dX7_deal_22 : decode cX7_deal 22 = .ok (.iastore, 1) := by decide +kernel
theorem dX7_deal_23 : decode cX7_deal 23 = .ok (.iload 4, 2) := by decide +kernel
theorem dX7_deal_25 : decode cX7_deal 25 = .ok (.bipush 100, 2) := by decide +kernel
theorem dX7_deal_27 : decode cX7_deal 27 = .ok (.idiv, 1) := by decide +kernel
theorem dX7_deal_28 : decode cX7_deal 28 = .ok (.istore 4, 2) := by decide +kernel
theorem dX7_deal_30 : decode cX7_deal 30 = .ok (.iinc 5 (-1), 3) := by decide +kernel
theorem dX7_deal_33 : decode cX7_deal 33 = .ok (.goto (-27), 3) := by decide +kernel
theorem dX7_deal_36 : decode cX7_deal 36 = .ok (.aload_n 0, 1) := by decide +kernel
theorem dX7_deal_37 : decode cX7_deal 37 = .ok (.getfield 72, 3) := by decide +kernel
theorem dX7_deal_40 : decode cX7_deal 40 = .ok (.iload_n 3, 1) := by decide +kernel
theorem dX7_deal_41 : decode cX7_deal 41 = .ok (.iaload, 1) := by decide +kernel
theorem dX7_deal_42 : decode cX7_deal 42 = .ok (.istore 5, 2) := by decide +kernel
theorem dX7_deal_44 : decode cX7_deal 44 = .ok (.iconst 0, 1) := by decide +kernel
theorem dX7_deal_45 : decode cX7_deal 45 = .ok (.istore 6, 2) := by decide +kernel
theorem dX7_deal_47 : decode cX7_deal 47 = .ok (.iload 6, 2) := by decide +kernel
theorem dX7_deal_49 : decode cX7_deal 49 = .ok (.iload_n 1, 1) := by decide +kernel
theorem dX7_deal_50 : decode cX7_deal 50 = .ok (.if_icmp .ge 59, 3) := by decide +kernel
theorem dX7_deal_53 : decode cX7_deal 53 = .ok (.iconst 0, 1) := by decide +kernel
theorem dX7_deal_54 : decode cX7_deal 54 = .ok (.istore 7, 2) := by decide +kernel
theorem dX7_deal_56 : decode cX7_deal 56 = .ok (.iconst 1, 1) := by decide +kernel
theorem dX7_deal_57 : decode cX7_deal 57 = .ok (.istore 8, 2) := by decide +kernel
theorem dX7_deal_59 : decode cX7_deal 59 = .ok (.iload 8, 2) := by decide +kernel
theorem dX7_deal_61 : decode cX7_deal 61 = .ok (.iconst 4, 1) := by decide +kernel
theorem dX7_deal_62 : decode cX7_deal 62 = .ok (.if_icmp .ge 30, 3) := by decide +kernel
theorem dX7_deal_65 : decode cX7_deal 65 = .ok (.aload_n 0, 1) := by decide +kernel
theorem dX7_deal_66 : decode cX7_deal 66 = .ok (.getfield 72, 3) := by decide +kernel
theorem dX7_deal_69 : decode cX7_deal 69 = .ok (.iload 8, 2) := by decide +kernel
theorem dX7_deal_71 : decode cX7_deal 71 = .ok (.iaload, 1) := by decide +kernel
theorem dX7_deal_72 : decode cX7_deal 72 = .ok (.aload_n 0, 1) := by decide +kernel
theorem dX7_deal_73 : decode cX7_deal 73 = .ok (.getfield 72, 3) := by decide +kernel
theorem dX7_deal_76 : decode cX7_deal 76 = .ok (.iload 7, 2) := by decide +kernel
theorem dX7_deal_78 : decode cX7_deal 78 = .ok (.iaload, 1) := by decide +kernel
theorem dX7_deal_79 : decode cX7_deal 79 = .ok (.if_icmp .ge 7, 3) := by decide +kernel
theorem dX7_deal_82 : decode cX7_deal 82 = .ok (.iload 8, 2) := by decide +kernel
theorem dX7_deal_84 : decode cX7_deal 84 = .ok (.istore 7, 2) := by decide +kernel
theorem dX7_deal_86 : decode cX7_deal 86 = .ok (.iinc 8 1, 3) := by decide +kernel
theorem dX7_deal_89 : decode cX7_deal 89 = .ok (.goto (-30), 3) := by decide +kernel
theorem dX7_deal_92 : decode cX7_deal 92 = .ok (.aload_n 0, 1) := by decide +kernel
theorem dX7_deal_93 : decode cX7_deal 93 = .ok (.getfield 72, 3) := by decide +kernel
theorem dX7_deal_96 : decode cX7_deal 96 = .ok (.iload 7, 2) := by decide +kernel
theorem dX7_deal_98 : decode cX7_deal 98 = .ok (.dup2, 1) := by decide +kernel
theorem dX7_deal_99 : decode cX7_deal 99 = .ok (.iaload, 1) := by decide +kernel
theorem dX7_deal_100 : decode cX7_deal 100 = .ok (.iconst 1, 1) := by decide +kernel
theorem dX7_deal_101 : decode cX7_deal 101 = .ok (.iadd, 1) := by decide +kernel
theorem dX7_deal_102 : decode cX7_deal 102 = .ok (.iastore, 1) := by decide +kernel
theorem dX7_deal_103 : decode cX7_deal 103 = .ok (.iinc 6 1, 3) := by decide +kernel
theorem dX7_deal_106 : decode cX7_deal 106 = .ok (.goto (-59), 3) := by decide +kernel
theorem dX7_deal_109 : decode cX7_deal 109 = .ok (.aload_n 0, 1) := by decide +kernel
theorem dX7_deal_110 : decode cX7_deal 110 = .ok (.getfield 72, 3) := by decide +kernel
theorem dX7_deal_113 : decode cX7_deal 113 = .ok (.iload_n 3, 1) := by decide +kernel
theorem dX7_deal_114 : decode cX7_deal 114 = .ok (.iaload, 1) := by decide +kernel
theorem dX7_deal_115 : decode cX7_deal 115 = .ok (.iload 5, 2) := by decide +kernel
theorem dX7_deal_117 : decode cX7_deal 117 = .ok (.isub, 1) := by decide +kernel
theorem dX7_deal_118 : decode cX7_deal 118 = .ok (.ireturn, 1) := by decide +kernel
theorem dX7_toldOfMeal_0 : decode cX7_toldOfMeal 0 = .ok (.aload_n 0, 1) := by decide +kernel
theorem dX7_toldOfMeal_1 : decode cX7_toldOfMeal 1 = .ok (.getfield 12, 3) := by decide +kernel
theorem dX7_toldOfMeal_4 : decode cX7_toldOfMeal 4 = .ok (.iload_n 1, 1) := by decide +kernel
theorem dX7_toldOfMeal_5 : decode cX7_toldOfMeal 5 = .ok (.invokevirtual 173, 3) := by decide +kernel
theorem dX7_toldOfMeal_8 : decode cX7_toldOfMeal 8 = .ok (.ifCond .ne 6, 3) := by decide +kernel
theorem dX7_toldOfMeal_11 : decode cX7_toldOfMeal 11 = .ok (.bipush (-2), 2) := by decide +kernel
theorem dX7_toldOfMeal_13 : decode cX7_toldOfMeal 13 = .ok (.ireturn, 1) := by decide +kernel
theorem dX7_toldOfMeal_14 : decode cX7_toldOfMeal 14 = .ok (.iload_n 2, 1) := by decide +kernel
theorem dX7_toldOfMeal_15 : decode cX7_toldOfMeal 15 = .ok (.tableswitch 55 0 2 #[25, 35, 45], 25) := by decide +kernel
theorem dX7_toldOfMeal_40 : decode cX7_toldOfMeal 40 = .ok (.aload_n 0, 1) := by decide +kernel
theorem dX7_toldOfMeal_41 : decode cX7_toldOfMeal 41 = .ok (.getfield 12, 3) := by decide +kernel
theorem dX7_toldOfMeal_44 : decode cX7_toldOfMeal 44 = .ok (.getfield 100, 3) := by decide +kernel
theorem dX7_toldOfMeal_47 : decode cX7_toldOfMeal 47 = .ok (.iload_n 1, 1) := by decide +kernel
theorem dX7_toldOfMeal_48 : decode cX7_toldOfMeal 48 = .ok (.iaload, 1) := by decide +kernel
theorem dX7_toldOfMeal_49 : decode cX7_toldOfMeal 49 = .ok (.ireturn, 1) := by decide +kernel
theorem dX7_toldOfMeal_50 : decode cX7_toldOfMeal 50 = .ok (.aload_n 0, 1) := by decide +kernel
theorem dX7_toldOfMeal_51 : decode cX7_toldOfMeal 51 = .ok (.getfield 12, 3) := by decide +kernel
theorem dX7_toldOfMeal_54 : decode cX7_toldOfMeal 54 = .ok (.getfield 103, 3) := by decide +kernel
theorem dX7_toldOfMeal_57 : decode cX7_toldOfMeal 57 = .ok (.iload_n 1, 1) := by decide +kernel
theorem dX7_toldOfMeal_58 : decode cX7_toldOfMeal 58 = .ok (.iaload, 1) := by decide +kernel
theorem dX7_toldOfMeal_59 : decode cX7_toldOfMeal 59 = .ok (.ireturn, 1) := by decide +kernel
theorem dX7_toldOfMeal_60 : decode cX7_toldOfMeal 60 = .ok (.aload_n 0, 1) := by decide +kernel
theorem dX7_toldOfMeal_61 : decode cX7_toldOfMeal 61 = .ok (.getfield 12, 3) := by decide +kernel
theorem dX7_toldOfMeal_64 : decode cX7_toldOfMeal 64 = .ok (.getfield 106, 3) := by decide +kernel
theorem dX7_toldOfMeal_67 : decode cX7_toldOfMeal 67 = .ok (.iload_n 1, 1) := by decide +kernel
theorem dX7_toldOfMeal_68 : decode cX7_toldOfMeal 68 = .ok (.iaload, 1) := by decide +kernel
theorem dX7_toldOfMeal_69 : decode cX7_toldOfMeal 69 = .ok (.ireturn, 1) := by decide +kernel
theorem dX7_toldOfMeal_70 : decode cX7_toldOfMeal 70 = .ok (.bipush (-2), 2) := by decide +kernel
theorem dX7_toldOfMeal_72 : decode cX7_toldOfMeal 72 = .ok (.ireturn, 1) := by decide +kernel
theorem dX8_init_0 : decode cX8_init 0 = .ok (.aload_n 0, 1) := by decide +kernel
theorem dX8_init_1 : decode cX8_init 1 = .ok (.invokespecial 1, 3) := by decide +kernel
theorem dX8_init_4 : decode cX8_init 4 = .ok (.aload_n 0, 1) := by decide +kernel
theorem dX8_init_5 : decode cX8_init 5 = .ok (.bipush 14, 2) := by decide +kernel
theorem dX8_init_7 : decode cX8_init 7 = .ok (.newarray .int, 2) := by decide +kernel
theorem dX8_init_9 : decode cX8_init 9 = .ok (.putfield 7, 3) := by decide +kernel
theorem dX8_init_12 : decode cX8_init 12 = .ok (.aload_n 0, 1) := by decide +kernel
theorem dX8_init_13 : decode cX8_init 13 = .ok (.bipush 14, 2) := by decide +kernel
theorem dX8_init_15 : decode cX8_init 15 = .ok (.newarray .int, 2) := by decide +kernel
theorem dX8_init_17 : decode cX8_init 17 = .ok (.putfield 13, 3) := by decide +kernel
theorem dX8_init_20 : decode cX8_init 20 = .ok (.aload_n 0, 1) := by decide +kernel
theorem dX8_init_21 : decode cX8_init 21 = .ok (.bipush 6, 2) := by decide +kernel
theorem dX8_init_23 : decode cX8_init 23 = .ok (.newarray .int, 2) := by decide +kernel
theorem dX8_init_25 : decode cX8_init 25 = .ok (.putfield 16, 3) := by decide +kernel
theorem dX8_init_28 : decode cX8_init 28 = .ok (.aload_n 0, 1) := by decide +kernel
theorem dX8_init_29 : decode cX8_init 29 = .ok (.bipush 6, 2) := by decide +kernel
theorem dX8_init_31 : decode cX8_init 31 = .ok (.newarray .int, 2) := by decide +kernel
theorem dX8_init_33 : decode cX8_init 33 = .ok (.putfield 19, 3) := by decide +kernel
theorem dX8_init_36 : decode cX8_init 36 = .ok (.aload_n 0, 1) := by decide +kernel
theorem dX8_init_37 : decode cX8_init 37 = .ok (.bipush 6, 2) := by decide +kernel
theorem dX8_init_39 : decode cX8_init 39 = .ok (.newarray .int, 2) := by decide +kernel
theorem dX8_init_41 : decode cX8_init 41 = .ok (.putfield 22, 3) := by decide +kernel
theorem dX8_init_44 : decode cX8_init 44 = .ok (.aload_n 0, 1) := by decide +kernel
theorem dX8_init_45 : decode cX8_init 45 = .ok (.bipush 8, 2) := by decide +kernel
theorem dX8_init_47 : decode cX8_init 47 = .ok (.newarray .int, 2) := by decide +kernel
theorem dX8_init_49 : decode cX8_init 49 = .ok (.putfield 25, 3) := by decide +kernel
theorem dX8_init_52 : decode cX8_init 52 = .ok (.aload_n 0, 1) := by decide +kernel
theorem dX8_init_53 : decode cX8_init 53 = .ok (.bipush 8, 2) := by decide +kernel
theorem dX8_init_55 : decode cX8_init 55 = .ok (.newarray .int, 2) := by decide +kernel
theorem dX8_init_57 : decode cX8_init 57 = .ok (.putfield 28, 3) := by decide +kernel
theorem dX8_init_60 : decode cX8_init 60 = .ok (.aload_n 0, 1) := by decide +kernel
theorem dX8_init_61 : decode cX8_init 61 = .ok (.bipush 60, 2) := by decide +kernel
theorem dX8_init_63 : decode cX8_init 63 = .ok (.newarray .int, 2) := by decide +kernel
theorem dX8_init_65 : decode cX8_init 65 = .ok (.putfield 31, 3) := by decide +kernel
theorem dX8_init_68 : decode cX8_init 68 = .ok (.aload_n 0, 1) := by decide +kernel
theorem dX8_init_69 : decode cX8_init 69 = .ok (.bipush 60, 2) := by decide +kernel
theorem dX8_init_71 : decode cX8_init 71 = .ok (.newarray .int, 2) := by decide +kernel
theorem dX8_init_73 : decode cX8_init 73 = .ok (.putfield 34, 3) := by decide +kernel
theorem dX8_init_76 : decode cX8_init 76 = .ok (.aload_n 0, 1) := by decide +kernel
theorem dX8_init_77 : decode cX8_init 77 = .ok (.bipush 60, 2) := by decide +kernel
theorem dX8_init_79 : decode cX8_init 79 = .ok (.newarray .int, 2) := by decide +kernel
theorem dX8_init_81 : decode cX8_init 81 = .ok (.putfield 37, 3) := by decide +kernel
theorem dX8_init_84 : decode cX8_init 84 = .ok (.aload_n 0, 1) := by decide +kernel
theorem dX8_init_85 : decode cX8_init 85 = .ok (.bipush 60, 2) := by decide +kernel
theorem dX8_init_87 : decode cX8_init 87 = .ok (.newarray .int, 2) := by decide +kernel
theorem dX8_init_89 : decode cX8_init 89 = .ok (.putfield 40, 3) := by decide +kernel
theorem dX8_init_92 : decode cX8_init 92 = .ok (.aload_n 0, 1) := by decide +kernel
theorem dX8_init_93 : decode cX8_init 93 = .ok (.bipush 60, 2) := by decide +kernel
theorem dX8_init_95 : decode cX8_init 95 = .ok (.newarray .int, 2) := by decide +kernel
theorem dX8_init_97 : decode cX8_init 97 = .ok (.putfield 43, 3) := by decide +kernel
theorem dX8_init_100 : decode cX8_init 100 = .ok (.aload_n 0, 1) := by decide +kernel
theorem dX8_init_101 : decode cX8_init 101 = .ok (.bipush 60, 2) := by decide +kernel
theorem dX8_init_103 : decode cX8_init 103 = .ok (.newarray .int, 2) := by decide +kernel
theorem dX8_init_105 : decode cX8_init 105 = .ok (.putfield 46, 3) := by decide +kernel
theorem dX8_init_108 : decode cX8_init 108 = .ok (.aload_n 0, 1) := by decide +kernel
theorem dX8_init_109 : decode cX8_init 109 = .ok (.bipush 14, 2) := by decide +kernel
theorem dX8_init_111 : decode cX8_init 111 = .ok (.newarray .int, 2) := by decide +kernel
theorem dX8_init_113 : decode cX8_init 113 = .ok (.putfield 49, 3) := by decide +kernel
theorem dX8_init_116 : decode cX8_init 116 = .ok (.aload_n 0, 1) := by decide +kernel
theorem dX8_init_117 : decode cX8_init 117 = .ok (.bipush 61, 2) := by decide +kernel
theorem dX8_init_119 : decode cX8_init 119 = .ok (.newarray .int, 2) := by decide +kernel
theorem dX8_init_121 : decode cX8_init 121 = .ok (.putfield 52, 3) := by decide +kernel
theorem dX8_init_124 : decode cX8_init 124 = .ok (.aload_n 0, 1) := by decide +kernel
theorem dX8_init_125 : decode cX8_init 125 = .ok (.bipush 6, 2) := by decide +kernel
theorem dX8_init_127 : decode cX8_init 127 = .ok (.newarray .int, 2) := by decide +kernel
theorem dX8_init_129 : decode cX8_init 129 = .ok (.putfield 55, 3) := by decide +kernel
theorem dX8_init_132 : decode cX8_init 132 = .ok (.aload_n 0, 1) := by decide +kernel
theorem dX8_init_133 : decode cX8_init 133 = .ok (.bipush 6, 2) := by decide +kernel
theorem dX8_init_135 : decode cX8_init 135 = .ok (.newarray .int, 2) := by decide +kernel
theorem dX8_init_137 : decode cX8_init 137 = .ok (.putfield 58, 3) := by decide +kernel
theorem dX8_init_140 : decode cX8_init 140 = .ok (.aload_n 0, 1) := by decide +kernel
theorem dX8_init_141 : decode cX8_init 141 = .ok (.bipush 28, 2) := by decide +kernel
theorem dX8_init_143 : decode cX8_init 143 = .ok (.newarray .int, 2) := by decide +kernel
theorem dX8_init_145 : decode cX8_init 145 = .ok (.putfield 61, 3) := by decide +kernel
theorem dX8_init_148 : decode cX8_init 148 = .ok (.aload_n 0, 1) := by decide +kernel
theorem dX8_init_149 : decode cX8_init 149 = .ok (.sipush 1260, 3) := by decide +kernel
theorem dX8_init_152 : decode cX8_init 152 = .ok (.newarray .int, 2) := by decide +kernel
theorem dX8_init_154 : decode cX8_init 154 = .ok (.putfield 64, 3) := by decide +kernel
theorem dX8_init_157 : decode cX8_init 157 = .ok (.aload_n 0, 1) := by decide +kernel
theorem dX8_init_158 : decode cX8_init 158 = .ok (.iconst 4, 1) := by decide +kernel
theorem dX8_init_159 : decode cX8_init 159 = .ok (.newarray .int, 2) := by decide +kernel
theorem dX8_init_161 : decode cX8_init 161 = .ok (.putfield 67, 3) := by decide +kernel
theorem dX8_init_164 : decode cX8_init 164 = .ok (.aload_n 0, 1) := by decide +kernel
theorem dX8_init_165 : decode cX8_init 165 = .ok (.sipush 160, 3) := by decide +kernel
theorem dX8_init_168 : decode cX8_init 168 = .ok (.newarray .int, 2) := by decide +kernel
theorem dX8_init_170 : decode cX8_init 170 = .ok (.putfield 70, 3) := by decide +kernel
theorem dX8_init_173 : decode cX8_init 173 = .ok (.aload_n 0, 1) := by decide +kernel
theorem dX8_init_174 : decode cX8_init 174 = .ok (.iconst 2, 1) := by decide +kernel
theorem dX8_init_175 : decode cX8_init 175 = .ok (.newarray .boolean, 2) := by decide +kernel
theorem dX8_init_177 : decode cX8_init 177 = .ok (.putfield 73, 3) := by decide +kernel
theorem dX8_init_180 : decode cX8_init 180 = .ok (.aload_n 0, 1) := by decide +kernel
theorem dX8_init_181 : decode cX8_init 181 = .ok (.sipush 800, 3) := by decide +kernel
theorem dX8_init_184 : decode cX8_init 184 = .ok (.putfield 77, 3) := by decide +kernel
theorem dX8_init_187 : decode cX8_init 187 = .ok (.return_, 1) := by decide +kernel
theorem dX8_in_0 : decode cX8_in 0 = .ok (.lload_n 0, 1) := by decide +kernel
theorem dX8_in_1 : decode cX8_in 1 = .ok (.lload_n 2, 1) := by decide +kernel
theorem dX8_in_2 : decode cX8_in 2 = .ok (.lcmp, 1) := by decide +kernel
theorem dX8_in_3 : decode cX8_in 3 = .ok (.ifCond .lt 14, 3) := by decide +kernel
theorem dX8_in_6 : decode cX8_in 6 = .ok (.lload_n 0, 1) := by decide +kernel
theorem dX8_in_7 : decode cX8_in 7 = .ok (.lload 4, 2) := by decide +kernel
theorem dX8_in_9 : decode cX8_in 9 = .ok (.lcmp, 1) := by decide +kernel
theorem dX8_in_10 : decode cX8_in 10 = .ok (.ifCond .gt 7, 3) := by decide +kernel
theorem dX8_in_13 : decode cX8_in 13 = .ok (.iconst 1, 1) := by decide +kernel
theorem dX8_in_14 : decode cX8_in 14 = .ok (.goto 4, 3) := by decide +kernel
theorem dX8_in_17 : decode cX8_in 17 = .ok (.iconst 0, 1) := by decide +kernel
theorem dX8_in_18 : decode cX8_in 18 = .ok (.ireturn, 1) := by decide +kernel
theorem dX8_ones_0 : decode cX8_ones 0 = .ok (.iconst 0, 1) := by decide +kernel
theorem dX8_ones_1 : decode cX8_ones 1 = .ok (.istore_n 1, 1) := by decide +kernel
theorem dX8_ones_2 : decode cX8_ones 2 = .ok (.iload_n 0, 1) := by decide +kernel
theorem dX8_ones_3 : decode cX8_ones 3 = .ok (.istore_n 2, 1) := by decide +kernel
theorem dX8_ones_4 : decode cX8_ones 4 = .ok (.iload_n 2, 1) := by decide +kernel
theorem dX8_ones_5 : decode cX8_ones 5 = .ok (.ifCond .eq 15, 3) := by decide +kernel
theorem dX8_ones_8 : decode cX8_ones 8 = .ok (.iinc 1 1, 3) := by decide +kernel
theorem dX8_ones_11 : decode cX8_ones 11 = .ok (.iload_n 2, 1) := by decide +kernel
theorem dX8_ones_12 : decode cX8_ones 12 = .ok (.iload_n 2, 1) := by decide +kernel
theorem dX8_ones_13 : decode cX8_ones 13 = .ok (.iconst 1, 1) := by decide +kernel
theorem dX8_ones_14 : decode cX8_ones 14 = .ok (.isub, 1) := by decide +kernel
theorem dX8_ones_15 : decode cX8_ones 15 = .ok (.iand, 1) := by decide +kernel
theorem dX8_ones_16 : decode cX8_ones 16 = .ok (.istore_n 2, 1) := by decide +kernel
theorem dX8_ones_17 : decode cX8_ones 17 = .ok (.goto (-13), 3) := by decide +kernel
theorem dX8_ones_20 : decode cX8_ones 20 = .ok (.iload_n 1, 1) := by decide +kernel
theorem dX8_ones_21 : decode cX8_ones 21 = .ok (.ireturn, 1) := by decide +kernel
theorem dX8_isDay_0 : decode cX8_isDay 0 = .ok (.iload_n 0, 1) := by decide +kernel
theorem dX8_isDay_1 : decode cX8_isDay 1 = .ok (.i2l, 1) := by decide +kernel
theorem dX8_isDay_2 : decode cX8_isDay 2 = .ok (.lconst 0, 1) := by decide +kernel
theorem dX8_isDay_3 : decode cX8_isDay 3 = .ok (.ldc2_w 81, 3) := by decide +kernel
theorem dX8_isDay_6 : decode cX8_isDay 6 = .ok (.invokestatic 83, 3) := by decide +kernel
theorem dX8_isDay_9 : decode cX8_isDay 9 = .ok (.ireturn, 1) := by decide +kernel
theorem dX8_isMeal_0 : decode cX8_isMeal 0 = .ok (.iload_n 1, 1) := by decide +kernel
theorem dX8_isMeal_1 : decode cX8_isMeal 1 = .ok (.i2l, 1) := by decide +kernel
theorem dX8_isMeal_2 : decode cX8_isMeal 2 = .ok (.lconst 0, 1) := by decide +kernel
theorem dX8_isMeal_3 : decode cX8_isMeal 3 = .ok (.ldc2_w 87, 3) := by decide +kernel
theorem dX8_isMeal_6 : decode cX8_isMeal 6 = .ok (.invokestatic 83, 3) := by decide +kernel
theorem dX8_isMeal_9 : decode cX8_isMeal 9 = .ok (.ifCond .eq 19, 3) := by decide +kernel
theorem dX8_isMeal_12 : decode cX8_isMeal 12 = .ok (.aload_n 0, 1) := by decide +kernel
theorem dX8_isMeal_13 : decode cX8_isMeal 13 = .ok (.getfield 89, 3) := by decide +kernel
theorem dX8_isMeal_16 : decode cX8_isMeal 16 = .ok (.iload_n 1, 1) := by decide +kernel
theorem dX8_isMeal_17 : decode cX8_isMeal 17 = .ok (.ishr, 1) := by decide +kernel
theorem dX8_isMeal_18 : decode cX8_isMeal 18 = .ok (.iconst 1, 1) := by decide +kernel
theorem dX8_isMeal_19 : decode cX8_isMeal 19 = .ok (.iand, 1) := by decide +kernel
theorem dX8_isMeal_20 : decode cX8_isMeal 20 = .ok (.iconst 1, 1) := by decide +kernel
theorem dX8_isMeal_21 : decode cX8_isMeal 21 = .ok (.if_icmp .ne 7, 3) := by decide +kernel
theorem dX8_isMeal_24 : decode cX8_isMeal 24 = .ok (.iconst 1, 1) := by decide +kernel
theorem dX8_isMeal_25 : decode cX8_isMeal 25 = .ok (.goto 4, 3) := by decide +kernel
theorem dX8_isMeal_28 : decode cX8_isMeal 28 = .ok (.iconst 0, 1) := by decide +kernel
theorem dX8_isMeal_29 : decode cX8_isMeal 29 = .ok (.ireturn, 1) := by decide +kernel
theorem dX8_greatest_0 : decode cX8_greatest 0 = .ok (.iload_n 0, 1) := by decide +kernel
theorem dX8_greatest_1 : decode cX8_greatest 1 = .ok (.tableswitch 43 0 3 #[31, 35, 38, 41], 31) := by decide +kernel
theorem dX8_greatest_32 : decode cX8_greatest 32 = .ok (.sipush 4000, 3) := by decide +kernel
theorem dX8_greatest_35 : decode cX8_greatest 35 = .ok (.ireturn, 1) := by decide +kernel
theorem dX8_greatest_36 : decode cX8_greatest 36 = .ok (.bipush 60, 2) := by decide +kernel
theorem dX8_greatest_38 : decode cX8_greatest 38 = .ok (.ireturn, 1) := by decide +kernel
theorem dX8_greatest_39 : decode cX8_greatest 39 = .ok (.bipush 6, 2) := by decide +kernel
theorem dX8_greatest_41 : decode cX8_greatest 41 = .ok (.ireturn, 1) := by decide +kernel
theorem dX8_greatest_42 : decode cX8_greatest 42 = .ok (.iconst 1, 1) := by decide +kernel
theorem dX8_greatest_43 : decode cX8_greatest 43 = .ok (.ireturn, 1) := by decide +kernel
theorem dX8_greatest_44 : decode cX8_greatest 44 = .ok (.bipush 13, 2) := by decide +kernel
theorem dX8_greatest_46 : decode cX8_greatest 46 = .ok (.ireturn, 1) := by decide +kernel
theorem dX8_setting_0 : decode cX8_setting 0 = .ok (.iload_n 1, 1) := by decide +kernel
theorem dX8_setting_1 : decode cX8_setting 1 = .ok (.ifCond .ne 10, 3) := by decide +kernel
theorem dX8_setting_4 : decode cX8_setting 4 = .ok (.aload_n 0, 1) := by decide +kernel
theorem dX8_setting_5 : decode cX8_setting 5 = .ok (.getfield 77, 3) := by decide +kernel
theorem dX8_setting_8 : decode cX8_setting 8 = .ok (.goto 43, 3) := by decide +kernel
theorem dX8_setting_11 : decode cX8_setting 11 = .ok (.iload_n 1, 1) := by decide +kernel
theorem dX8_setting_12 : decode cX8_setting 12 = .ok (.iconst 1, 1) := by decide +kernel
theorem dX8_setting_13 : decode cX8_setting 13 = .ok (.if_icmp .ne 10, 3) := by decide +kernel
theorem dX8_setting_16 : decode cX8_setting 16 = .ok (.aload_n 0, 1) := by decide +kernel
theorem dX8_setting_17 : decode cX8_setting 17 = .ok (.getfield 92, 3) := by decide +kernel
theorem dX8_setting_20 : decode cX8_setting 20 = .ok (.goto 31, 3) := by decide +kernel
theorem dX8_setting_23 : decode cX8_setting 23 = .ok (.iload_n 1, 1) := by decide +kernel
theorem dX8_setting_24 : decode cX8_setting 24 = .ok (.iconst 2, 1) := by decide +kernel
theorem dX8_setting_25 : decode cX8_setting 25 = .ok (.if_icmp .ne 10, 3) := by decide +kernel
theorem dX8_setting_28 : decode cX8_setting 28 = .ok (.aload_n 0, 1) := by decide +kernel
theorem dX8_setting_29 : decode cX8_setting 29 = .ok (.getfield 95, 3) := by decide +kernel
theorem dX8_setting_32 : decode cX8_setting 32 = .ok (.goto 19, 3) := by decide +kernel
theorem dX8_setting_35 : decode cX8_setting 35 = .ok (.iload_n 1, 1) := by decide +kernel
theorem dX8_setting_36 : decode cX8_setting 36 = .ok (.iconst 3, 1) := by decide +kernel
theorem dX8_setting_37 : decode cX8_setting 37 = .ok (.if_icmp .ne 10, 3) := by decide +kernel
theorem dX8_setting_40 : decode cX8_setting 40 = .ok (.aload_n 0, 1) := by decide +kernel
theorem dX8_setting_41 : decode cX8_setting 41 = .ok (.getfield 98, 3) := by decide +kernel
theorem dX8_setting_44 : decode cX8_setting 44 = .ok (.goto 7, 3) := by decide +kernel
theorem dX8_setting_47 : decode cX8_setting 47 = .ok (.aload_n 0, 1) := by decide +kernel
theorem dX8_setting_48 : decode cX8_setting 48 = .ok (.getfield 101, 3) := by decide +kernel
theorem dX8_setting_51 : decode cX8_setting 51 = .ok (.ireturn, 1) := by decide +kernel
theorem dX8_set_0 : decode cX8_set 0 = .ok (.iload_n 1, 1) := by decide +kernel
theorem dX8_set_1 : decode cX8_set 1 = .ok (.i2l, 1) := by decide +kernel
theorem dX8_set_2 : decode cX8_set 2 = .ok (.lconst 0, 1) := by decide +kernel
theorem dX8_set_3 : decode cX8_set 3 = .ok (.ldc2_w 104, 3) := by decide +kernel
theorem dX8_set_6 : decode cX8_set 6 = .ok (.invokestatic 83, 3) := by decide +kernel
theorem dX8_set_9 : decode cX8_set 9 = .ok (.ifCond .eq 17, 3) := by decide +kernel
theorem dX8_set_12 : decode cX8_set 12 = .ok (.iload_n 2, 1) := by decide +kernel
theorem dX8_set_13 : decode cX8_set 13 = .ok (.i2l, 1) := by decide +kernel
theorem dX8_set_14 : decode cX8_set 14 = .ok (.lconst 0, 1) := by decide +kernel
theorem dX8_set_15 : decode cX8_set 15 = .ok (.iload_n 1, 1) := by decide +kernel
theorem dX8_set_16 : decode cX8_set 16 = .ok (.invokestatic 106, 3) := by decide +kernel
theorem dX8_set_19 : decode cX8_set 19 = .ok (.i2l, 1) := by decide +kernel
theorem dX8_set_20 : decode cX8_set 20 = .ok (.invokestatic 83, 3) := by decide +kernel
theorem dX8_set_23 : decode cX8_set 23 = .ok (.ifCond .ne 6, 3) := by decide +kernel
theorem dX8_set_26 : decode cX8_set 26 = .ok (.bipush (-2), 2) := by decide +kernel
theorem dX8_set_28 : decode cX8_set 28 = .ok (.ireturn, 1) := by decide +kernel
theorem dX8_set_29 : decode cX8_set 29 = .ok (.aload_n 0, 1) := by decide +kernel
theorem dX8_set_30 : decode cX8_set 30 = .ok (.iload_n 1, 1) := by decide +kernel
theorem dX8_set_31 : decode cX8_set 31 = .ok (.invokevirtual 110, 3) := by decide +kernel
theorem dX8_set_34 : decode cX8_set 34 = .ok (.istore_n 3, 1) := by decide +kernel
theorem dX8_set_35 : decode cX8_set 35 = .ok (.aload_n 0, 1) := by decide +kernel
theorem dX8_set_36 : decode cX8_set 36 = .ok (.iload_n 1, 1) := by decide +kernel
theorem dX8_set_37 : decode cX8_set 37 = .ok (.ifCond .ne 7, 3) := by decide +kernel
theorem dX8_set_40 : decode cX8_set 40 = .ok (.iload_n 2, 1) := by decide +kernel
theorem dX8_set_41 : decode cX8_set 41 = .ok (.goto 7, 3) := by decide +kernel
theorem dX8_set_44 : decode cX8_set 44 = .ok (.aload_n 0, 1) := by decide +kernel
theorem dX8_set_45 : decode cX8_set 45 = .ok (.getfield 77, 3) := by decide +kernel
theorem dX8_set_48 : decode cX8_set 48 = .ok (.putfield 77, 3) := by decide +kernel
theorem dX8_set_51 : decode cX8_set 51 = .ok (.aload_n 0, 1) := by decide +kernel
theorem dX8_set_52 : decode cX8_set 52 = .ok (.iload_n 1, 1) := by decide +kernel
theorem dX8_set_53 : decode cX8_set 53 = .ok (.iconst 1, 1) := by decide +kernel
theorem dX8_set_54 : decode cX8_set 54 = .ok (.if_icmp .ne 7, 3) := by decide +kernel
theorem dX8_set_57 : decode cX8_set 57 = .ok (.iload_n 2, 1) := by decide +kernel
theorem dX8_set_58 : decode cX8_set 58 = .ok (.goto 7, 3) := by decide +kernel
theorem dX8_set_61 : decode cX8_set 61 = .ok (.aload_n 0, 1) := by decide +kernel
theorem dX8_set_62 : decode cX8_set 62 = .ok (.getfield 92, 3) := by decide +kernel
theorem dX8_set_65 : decode cX8_set 65 = .ok (.putfield 92, 3) := by decide +kernel
theorem dX8_set_68 : decode cX8_set 68 = .ok (.aload_n 0, 1) := by decide +kernel
theorem dX8_set_69 : decode cX8_set 69 = .ok (.iload_n 1, 1) := by decide +kernel
theorem dX8_set_70 : decode cX8_set 70 = .ok (.iconst 2, 1) := by decide +kernel
theorem dX8_set_71 : decode cX8_set 71 = .ok (.if_icmp .ne 7, 3) := by decide +kernel
theorem dX8_set_74 : decode cX8_set 74 = .ok (.iload_n 2, 1) := by decide +kernel
theorem dX8_set_75 : decode cX8_set 75 = .ok (.goto 7, 3) := by decide +kernel
theorem dX8_set_78 : decode cX8_set 78 = .ok (.aload_n 0, 1) := by decide +kernel
theorem dX8_set_79 : decode cX8_set 79 = .ok (.getfield 95, 3) := by decide +kernel
theorem dX8_set_82 : decode cX8_set 82 = .ok (.putfield 95, 3) := by decide +kernel
theorem dX8_set_85 : decode cX8_set 85 = .ok (.aload_n 0, 1) := by decide +kernel
theorem dX8_set_86 : decode cX8_set 86 = .ok (.iload_n 1, 1) := by decide +kernel
theorem dX8_set_87 : decode cX8_set 87 = .ok (.iconst 3, 1) := by decide +kernel
theorem dX8_set_88 : decode cX8_set 88 = .ok (.if_icmp .ne 7, 3) := by decide +kernel
theorem dX8_set_91 : decode cX8_set 91 = .ok (.iload_n 2, 1) := by decide +kernel
theorem dX8_set_92 : decode cX8_set 92 = .ok (.goto 7, 3) := by decide +kernel
theorem dX8_set_95 : decode cX8_set 95 = .ok (.aload_n 0, 1) := by decide +kernel
theorem dX8_set_96 : decode cX8_set 96 = .ok (.getfield 98, 3) := by decide +kernel
theorem dX8_set_99 : decode cX8_set 99 = .ok (.putfield 98, 3) := by decide +kernel
theorem dX8_set_102 : decode cX8_set 102 = .ok (.iload_n 1, 1) := by decide +kernel
theorem dX8_set_103 : decode cX8_set 103 = .ok (.iconst 4, 1) := by decide +kernel
theorem dX8_set_104 : decode cX8_set 104 = .ok (.if_icmp .ne 18, 3) := by decide +kernel
theorem dX8_set_107 : decode cX8_set 107 = .ok (.aload_n 0, 1) := by decide +kernel
theorem dX8_set_108 : decode cX8_set 108 = .ok (.iload_n 2, 1) := by decide +kernel
theorem dX8_set_109 : decode cX8_set 109 = .ok (.putfield 101, 3) := by decide +kernel
theorem dX8_set_112 : decode cX8_set 112 = .ok (.aload_n 0, 1) := by decide +kernel
theorem dX8_set_113 : decode cX8_set 113 = .ok (.iconst 0, 1) := by decide +kernel
theorem dX8_set_114 : decode cX8_set 114 = .ok (.putfield 113, 3) := by decide +kernel
theorem dX8_set_117 : decode cX8_set 117 = .ok (.aload_n 0, 1) := by decide +kernel
theorem dX8_set_118 : decode cX8_set 118 = .ok (.iconst 0, 1) := by decide +kernel
theorem dX8_set_119 : decode cX8_set 119 = .ok (.putfield 116, 3) := by decide +kernel
theorem dX8_set_122 : decode cX8_set 122 = .ok (.iload_n 3, 1) := by decide +kernel
theorem dX8_set_123 : decode cX8_set 123 = .ok (.ireturn, 1) := by decide +kernel
theorem dX8_day_0 : decode cX8_day 0 = .ok (.iload_n 1, 1) := by decide +kernel
theorem dX8_day_1 : decode cX8_day 1 = .ok (.invokestatic 119, 3) := by decide +kernel
theorem dX8_day_4 : decode cX8_day 4 = .ok (.ifCond .ne 5, 3) := by decide +kernel
theorem dX8_day_7 : decode cX8_day 7 = .ok (.iconst (-1), 1) := by decide +kernel
theorem dX8_day_8 : decode cX8_day 8 = .ok (.ireturn, 1) := by decide +kernel
theorem dX8_day_9 : decode cX8_day 9 = .ok (.iload_n 2, 1) := by decide +kernel
theorem dX8_day_10 : decode cX8_day 10 = .ok (.i2l, 1) := by decide +kernel
theorem dX8_day_11 : decode cX8_day 11 = .ok (.lconst 0, 1) := by decide +kernel
theorem dX8_day_12 : decode cX8_day 12 = .ok (.ldc2_w 104, 3) := by decide +kernel
theorem dX8_day_15 : decode cX8_day 15 = .ok (.invokestatic 83, 3) := by decide +kernel
theorem dX8_day_18 : decode cX8_day 18 = .ok (.ifCond .ne 6, 3) := by decide +kernel
theorem dX8_day_21 : decode cX8_day 21 = .ok (.bipush (-2), 2) := by decide +kernel
theorem dX8_day_23 : decode cX8_day 23 = .ok (.ireturn, 1) := by decide +kernel
theorem dX8_day_24 : decode cX8_day 24 = .ok (.aload_n 0, 1) := by decide +kernel
theorem dX8_day_25 : decode cX8_day 25 = .ok (.getfield 7, 3) := by decide +kernel
theorem dX8_day_28 : decode cX8_day 28 = .ok (.iload_n 1, 1) := by decide +kernel
theorem dX8_day_29 : decode cX8_day 29 = .ok (.iaload, 1) := by decide +kernel
theorem dX8_day_30 : decode cX8_day 30 = .ok (.istore 4, 2) := by decide +kernel
theorem dX8_day_32 : decode cX8_day 32 = .ok (.aload_n 0, 1) := by decide +kernel
theorem dX8_day_33 : decode cX8_day 33 = .ok (.getfield 7, 3) := by decide +kernel
theorem dX8_day_36 : decode cX8_day 36 = .ok (.iload_n 1, 1) := by decide +kernel
theorem dX8_day_37 : decode cX8_day 37 = .ok (.iload_n 2, 1) := by decide +kernel
theorem dX8_day_38 : decode cX8_day 38 = .ok (.iastore, 1) := by decide +kernel
theorem dX8_day_39 : decode cX8_day 39 = .ok (.aload_n 0, 1) := by decide +kernel
theorem dX8_day_40 : decode cX8_day 40 = .ok (.getfield 13, 3) := by decide +kernel
theorem dX8_day_43 : decode cX8_day 43 = .ok (.iload_n 1, 1) := by decide +kernel
theorem dX8_day_44 : decode cX8_day 44 = .ok (.iload_n 3, 1) := by decide +kernel
theorem dX8_day_45 : decode cX8_day 45 = .ok (.ifCond .eq 7, 3) := by decide +kernel
theorem dX8_day_48 : decode cX8_day 48 = .ok (.iconst 1, 1) := by decide +kernel
theorem dX8_day_49 : decode cX8_day 49 = .ok (.goto 4, 3) := by decide +kernel
theorem dX8_day_52 : decode cX8_day 52 = .ok (.iconst 0, 1) := by decide +kernel
theorem dX8_day_53 : decode cX8_day 53 = .ok (.iastore, 1) := by decide +kernel
theorem dX8_day_54 : decode cX8_day 54 = .ok (.iload 4, 2) := by decide +kernel
theorem dX8_day_56 : decode cX8_day 56 = .ok (.ireturn, 1) := by decide +kernel
theorem dX8_meal_0 : decode cX8_meal 0 = .ok (.iload_n 1, 1) := by decide +kernel
theorem dX8_meal_1 : decode cX8_meal 1 = .ok (.i2l, 1) := by decide +kernel
theorem dX8_meal_2 : decode cX8_meal 2 = .ok (.lconst 0, 1) := by decide +kernel
theorem dX8_meal_3 : decode cX8_meal 3 = .ok (.ldc2_w 87, 3) := by decide +kernel
theorem dX8_meal_6 : decode cX8_meal 6 = .ok (.invokestatic 83, 3) := by decide +kernel
theorem dX8_meal_9 : decode cX8_meal 9 = .ok (.ifCond .ne 5, 3) := by decide +kernel
theorem dX8_meal_12 : decode cX8_meal 12 = .ok (.iconst (-1), 1) := by decide +kernel
theorem dX8_meal_13 : decode cX8_meal 13 = .ok (.ireturn, 1) := by decide +kernel
theorem dX8_meal_14 : decode cX8_meal 14 = .ok (.iload_n 2, 1) := by decide +kernel
theorem dX8_meal_15 : decode cX8_meal 15 = .ok (.i2l, 1) := by decide +kernel
theorem dX8_meal_16 : decode cX8_meal 16 = .ok (.lconst 1, 1) := by decide +kernel
theorem dX8_meal_17 : decode cX8_meal 17 = .ok (.ldc2_w 104, 3) := by decide +kernel
theorem dX8_meal_20 : decode cX8_meal 20 = .ok (.invokestatic 83, 3) := by decide +kernel
theorem dX8_meal_23 : decode cX8_meal 23 = .ok (.ifCond .eq 28, 3) := by decide +kernel
theorem dX8_meal_26 : decode cX8_meal 26 = .ok (.iload_n 3, 1) := by decide +kernel
theorem dX8_meal_27 : decode cX8_meal 27 = .ok (.i2l, 1) := by decide +kernel
theorem dX8_meal_28 : decode cX8_meal 28 = .ok (.lconst 0, 1) := by decide +kernel
theorem dX8_meal_29 : decode cX8_meal 29 = .ok (.ldc2_w 123, 3) := by decide +kernel
theorem dX8_meal_32 : decode cX8_meal 32 = .ok (.invokestatic 83, 3) := by decide +kernel
theorem dX8_meal_35 : decode cX8_meal 35 = .ok (.ifCond .eq 16, 3) := by decide +kernel
theorem dX8_meal_38 : decode cX8_meal 38 = .ok (.iload 4, 2) := by decide +kernel
theorem dX8_meal_40 : decode cX8_meal 40 = .ok (.i2l, 1) := by decide +kernel
theorem dX8_meal_41 : decode cX8_meal 41 = .ok (.lconst 1, 1) := by decide +kernel
theorem dX8_meal_42 : decode cX8_meal 42 = .ok (.ldc2_w 125, 3) := by decide +kernel
theorem dX8_meal_45 : decode cX8_meal 45 = .ok (.invokestatic 83, 3) := by decide +kernel
theorem dX8_meal_48 : decode cX8_meal 48 = .ok (.ifCond .ne 6, 3) := by decide +kernel
theorem dX8_meal_51 : decode cX8_meal 51 = .ok (.bipush (-2), 2) := by decide +kernel
theorem dX8_meal_53 : decode cX8_meal 53 = .ok (.ireturn, 1) := by decide +kernel
theorem dX8_meal_54 : decode cX8_meal 54 = .ok (.aload_n 0, 1) := by decide +kernel
theorem dX8_meal_55 : decode cX8_meal 55 = .ok (.getfield 16, 3) := by decide +kernel
theorem dX8_meal_58 : decode cX8_meal 58 = .ok (.iload_n 1, 1) := by decide +kernel
theorem dX8_meal_59 : decode cX8_meal 59 = .ok (.iload_n 2, 1) := by decide +kernel
theorem dX8_meal_60 : decode cX8_meal 60 = .ok (.iastore, 1) := by decide +kernel
theorem dX8_meal_61 : decode cX8_meal 61 = .ok (.aload_n 0, 1) := by decide +kernel
theorem dX8_meal_62 : decode cX8_meal 62 = .ok (.getfield 19, 3) := by decide +kernel
theorem dX8_meal_65 : decode cX8_meal 65 = .ok (.iload_n 1, 1) := by decide +kernel
theorem dX8_meal_66 : decode cX8_meal 66 = .ok (.iload_n 3, 1) := by decide +kernel
theorem dX8_meal_67 : decode cX8_meal 67 = .ok (.iastore, 1) := by decide +kernel
theorem dX8_meal_68 : decode cX8_meal 68 = .ok (.aload_n 0, 1) := by decide +kernel
theorem dX8_meal_69 : decode cX8_meal 69 = .ok (.getfield 22, 3) := by decide +kernel
theorem dX8_meal_72 : decode cX8_meal 72 = .ok (.iload_n 1, 1) := by decide +kernel
theorem dX8_meal_73 : decode cX8_meal 73 = .ok (.iload 4, 2) := by decide +kernel
theorem dX8_meal_75 : decode cX8_meal 75 = .ok (.iastore, 1) := by decide +kernel
theorem dX8_meal_76 : decode cX8_meal 76 = .ok (.aload_n 0, 1) := by decide +kernel
theorem dX8_meal_77 : decode cX8_meal 77 = .ok (.dup, 1) := by decide +kernel
theorem dX8_meal_78 : decode cX8_meal 78 = .ok (.getfield 89, 3) := by decide +kernel
theorem dX8_meal_81 : decode cX8_meal 81 = .ok (.iconst 1, 1) := by decide +kernel
theorem dX8_meal_82 : decode cX8_meal 82 = .ok (.iload_n 1, 1) := by decide +kernel
theorem dX8_meal_83 : decode cX8_meal 83 = .ok (.ishl, 1) := by decide +kernel
theorem dX8_meal_84 : decode cX8_meal 84 = .ok (.ior, 1) := by decide +kernel
theorem dX8_meal_85 : decode cX8_meal 85 = .ok (.putfield 89, 3) := by decide +kernel
theorem dX8_meal_88 : decode cX8_meal 88 = .ok (.aload_n 0, 1) := by decide +kernel
theorem dX8_meal_89 : decode cX8_meal 89 = .ok (.getfield 89, 3) := by decide +kernel
theorem dX8_meal_92 : decode cX8_meal 92 = .ok (.invokestatic 127, 3) := by decide +kernel
theorem dX8_meal_95 : decode cX8_meal 95 = .ok (.ireturn, 1) := by decide +kernel
theorem dX8_say_0 : decode cX8_say 0 = .ok (.iload_n 1, 1) := by decide +kernel
theorem dX8_say_1 : decode cX8_say 1 = .ok (.i2l, 1) := by decide +kernel
theorem dX8_say_2 : decode cX8_say 2 = .ok (.ldc2_w 130, 3) := by decide +kernel
theorem dX8_say_5 : decode cX8_say 5 = .ok (.ldc2_w 132, 3) := by decide +kernel
theorem dX8_say_8 : decode cX8_say 8 = .ok (.invokestatic 83, 3) := by decide +kernel
theorem dX8_say_11 : decode cX8_say 11 = .ok (.ifCond .ne 6, 3) := by decide +kernel
theorem dX8_say_14 : decode cX8_say 14 = .ok (.bipush (-2), 2) := by decide +kernel
theorem dX8_say_16 : decode cX8_say 16 = .ok (.ireturn, 1) := by decide +kernel
theorem dX8_say_17 : decode cX8_say 17 = .ok (.aload_n 0, 1) := by decide +kernel
theorem dX8_say_18 : decode cX8_say 18 = .ok (.getfield 134, 3) := by decide +kernel
theorem dX8_say_21 : decode cX8_say 21 = .ok (.bipush 60, 2) := by decide +kernel
theorem dX8_say_23 : decode cX8_say 23 = .ok (.if_icmp .ne 6, 3) := by decide +kernel
theorem dX8_say_26 : decode cX8_say 26 = .ok (.bipush (-4), 2) := by decide +kernel
theorem dX8_say_28 : decode cX8_say 28 = .ok (.ireturn, 1) := by decide +kernel
theorem dX8_say_29 : decode cX8_say 29 = .ok (.aload_n 0, 1) := by decide +kernel
theorem dX8_say_30 : decode cX8_say 30 = .ok (.getfield 31, 3) := by decide +kernel
theorem dX8_say_33 : decode cX8_say 33 = .ok (.aload_n 0, 1) := by decide +kernel
theorem dX8_say_34 : decode cX8_say 34 = .ok (.getfield 134, 3) := by decide +kernel
theorem dX8_say_37 : decode cX8_say 37 = .ok (.iload_n 1, 1) := by decide +kernel
theorem dX8_say_38 : decode cX8_say 38 = .ok (.iastore, 1) := by decide +kernel
theorem dX8_say_39 : decode cX8_say 39 = .ok (.aload_n 0, 1) := by decide +kernel
theorem dX8_say_40 : decode cX8_say 40 = .ok (.dup, 1) := by decide +kernel
theorem dX8_say_41 : decode cX8_say 41 = .ok (.getfield 134, 3) := by decide +kernel
theorem dX8_say_44 : decode cX8_say 44 = .ok (.iconst 1, 1) := by decide +kernel
theorem dX8_say_45 : decode cX8_say 45 = .ok (.iadd, 1) := by decide +kernel
theorem dX8_say_46 : decode cX8_say 46 = .ok (.putfield 134, 3) := by decide +kernel
theorem dX8_say_49 : decode cX8_say 49 = .ok (.aload_n 0, 1) := by decide +kernel
theorem dX8_say_50 : decode cX8_say 50 = .ok (.getfield 134, 3) := by decide +kernel
theorem dX8_say_53 : decode cX8_say 53 = .ok (.ireturn, 1) := by decide +kernel
theorem dX8_wipe_0 : decode cX8_wipe 0 = .ok (.aload_n 0, 1) := by decide +kernel
theorem dX8_wipe_1 : decode cX8_wipe 1 = .ok (.getfield 134, 3) := by decide +kernel
theorem dX8_wipe_4 : decode cX8_wipe 4 = .ok (.istore_n 1, 1) := by decide +kernel
theorem dX8_wipe_5 : decode cX8_wipe 5 = .ok (.aload_n 0, 1) := by decide +kernel
theorem dX8_wipe_6 : decode cX8_wipe 6 = .ok (.iconst 0, 1) := by decide +kernel
theorem dX8_wipe_7 : decode cX8_wipe 7 = .ok (.putfield 134, 3) := by decide +kernel
theorem dX8_wipe_10 : decode cX8_wipe 10 = .ok (.iload_n 1, 1) := by decide +kernel
theorem dX8_wipe_11 : decode cX8_wipe 11 = .ok (.ireturn, 1) := by decide +kernel
theorem dX8_wayOf_0 : decode cX8_wayOf 0 = .ok (.iload_n 0, 1) := by decide +kernel
theorem dX8_wayOf_1 : decode cX8_wayOf 1 = .ok (.bipush 115, 2) := by decide +kernel
theorem dX8_wayOf_3 : decode cX8_wayOf 3 = .ok (.if_icmp .ne 7, 3) := by decide +kernel
theorem dX8_wayOf_6 : decode cX8_wayOf 6 = .ok (.iconst 1, 1) := by decide +kernel
theorem dX8_wayOf_7 : decode cX8_wayOf 7 = .ok (.goto 35, 3) := by decide +kernel
theorem dX8_wayOf_10 : decode cX8_wayOf 10 = .ok (.iload_n 0, 1) := by decide +kernel
theorem dX8_wayOf_11 : decode cX8_wayOf 11 = .ok (.bipush 111, 2) := by decide +kernel
theorem dX8_wayOf_13 : decode cX8_wayOf 13 = .ok (.if_icmp .ne 7, 3) := by decide +kernel
theorem dX8_wayOf_16 : decode cX8_wayOf 16 = .ok (.iconst 2, 1) := by decide +kernel
theorem dX8_wayOf_17 : decode cX8_wayOf 17 = .ok (.goto 25, 3) := by decide +kernel
theorem dX8_wayOf_20 : decode cX8_wayOf 20 = .ok (.iload_n 0, 1) := by decide +kernel
theorem dX8_wayOf_21 : decode cX8_wayOf 21 = .ok (.bipush 104, 2) := by decide +kernel
theorem dX8_wayOf_23 : decode cX8_wayOf 23 = .ok (.if_icmp .ne 7, 3) := by decide +kernel
theorem dX8_wayOf_26 : decode cX8_wayOf 26 = .ok (.iconst 4, 1) := by decide +kernel
theorem dX8_wayOf_27 : decode cX8_wayOf 27 = .ok (.goto 15, 3) := by decide +kernel
theorem dX8_wayOf_30 : decode cX8_wayOf 30 = .ok (.iload_n 0, 1) := by decide +kernel
theorem dX8_wayOf_31 : decode cX8_wayOf 31 = .ok (.bipush 120, 2) := by decide +kernel
theorem dX8_wayOf_33 : decode cX8_wayOf 33 = .ok (.if_icmp .ne 8, 3) := by decide +kernel
theorem dX8_wayOf_36 : decode cX8_wayOf 36 = .ok (.bipush 8, 2) := by decide +kernel
theorem dX8_wayOf_38 : decode cX8_wayOf 38 = .ok (.goto 4, 3) := by decide +kernel
theorem dX8_wayOf_41 : decode cX8_wayOf 41 = .ok (.iconst 0, 1) := by decide +kernel
theorem dX8_wayOf_42 : decode cX8_wayOf 42 = .ok (.ireturn, 1) := by decide +kernel
theorem dX8_otherAct_0 : decode cX8_otherAct 0 = .ok (.iload_n 0, 1) := by decide +kernel
theorem dX8_otherAct_1 : decode cX8_otherAct 1 = .ok (.bipush 46, 2) := by decide +kernel
theorem dX8_otherAct_3 : decode cX8_otherAct 3 = .ok (.if_icmp .ne 7, 3) := by decide +kernel
theorem dX8_otherAct_6 : decode cX8_otherAct 6 = .ok (.iconst 1, 1) := by decide +kernel
theorem dX8_otherAct_7 : decode cX8_otherAct 7 = .ok (.goto 25, 3) := by decide +kernel
theorem dX8_otherAct_10 : decode cX8_otherAct 10 = .ok (.iload_n 0, 1) := by decide +kernel
theorem dX8_otherAct_11 : decode cX8_otherAct 11 = .ok (.bipush 126, 2) := by decide +kernel
theorem dX8_otherAct_13 : decode cX8_otherAct 13 = .ok (.if_icmp .ne 7, 3) := by decide +kernel
theorem dX8_otherAct_16 : decode cX8_otherAct 16 = .ok (.iconst 2, 1) := by decide +kernel
theorem dX8_otherAct_17 : decode cX8_otherAct 17 = .ok (.goto 15, 3) := by decide +kernel
theorem dX8_otherAct_20 : decode cX8_otherAct 20 = .ok (.iload_n 0, 1) := by decide +kernel
theorem dX8_otherAct_21 : decode cX8_otherAct 21 = .ok (.bipush 36, 2) := by decide +kernel
theorem dX8_otherAct_23 : decode cX8_otherAct 23 = .ok (.if_icmp .ne 7, 3) := by decide +kernel
theorem dX8_otherAct_26 : decode cX8_otherAct 26 = .ok (.iconst 3, 1) := by decide +kernel
theorem dX8_otherAct_27 : decode cX8_otherAct 27 = .ok (.goto 5, 3) := by decide +kernel
theorem dX8_otherAct_30 : decode cX8_otherAct 30 = .ok (.bipush (-6), 2) := by decide +kernel
theorem dX8_otherAct_32 : decode cX8_otherAct 32 = .ok (.ireturn, 1) := by decide +kernel
theorem dX8_fault_0 : decode cX8_fault 0 = .ok (.aload_n 0, 1) := by decide +kernel
theorem dX8_fault_1 : decode cX8_fault 1 = .ok (.iconst 0, 1) := by decide +kernel
theorem dX8_fault_2 : decode cX8_fault 2 = .ok (.putfield 137, 3) := by decide +kernel
theorem dX8_fault_5 : decode cX8_fault 5 = .ok (.bipush 16, 2) := by decide +kernel
theorem dX8_fault_7 : decode cX8_fault 7 = .ok (.istore_n 1, 1) := by decide +kernel
theorem dX8_fault_8 : decode cX8_fault 8 = .ok (.iconst 0, 1) := by decide +kernel
theorem dX8_fault_9 : decode cX8_fault 9 = .ok (.istore_n 2, 1) := by decide +kernel
theorem dX8_fault_10 : decode cX8_fault 10 = .ok (.iload_n 2, 1) := by decide +kernel
theorem dX8_fault_11 : decode cX8_fault 11 = .ok (.aload_n 0, 1) := by decide +kernel
theorem dX8_fault_12 : decode cX8_fault 12 = .ok (.getfield 134, 3) := by decide +kernel
theorem dX8_fault_15 : decode cX8_fault 15 = .ok (.if_icmp .ge 167, 3) := by decide +kernel
theorem dX8_fault_18 : decode cX8_fault 18 = .ok (.aload_n 0, 1) := by decide +kernel
theorem dX8_fault_19 : decode cX8_fault 19 = .ok (.getfield 31, 3) := by decide +kernel
theorem dX8_fault_22 : decode cX8_fault 22 = .ok (.iload_n 2, 1) := by decide +kernel
theorem dX8_fault_23 : decode cX8_fault 23 = .ok (.iaload, 1) := by decide +kernel
theorem dX8_fault_24 : decode cX8_fault 24 = .ok (.istore_n 3, 1) := by decide +kernel
theorem dX8_fault_25 : decode cX8_fault 25 = .ok (.iload_n 3, 1) := by decide +kernel
theorem dX8_fault_26 : decode cX8_fault 26 = .ok (.invokestatic 140, 3) := by decide +kernel
theorem dX8_fault_29 : decode cX8_fault 29 = .ok (.istore 4, 2) := by decide +kernel
theorem dX8_fault_31 : decode cX8_fault 31 = .ok (.iload_n 3, 1) := by decide +kernel
theorem dX8_fault_32 : decode cX8_fault 32 = .ok (.i2l, 1) := by decide +kernel
theorem dX8_fault_33 : decode cX8_fault 33 = .ok (.ldc2_w 143, 3) := by decide +kernel
theorem dX8_fault_36 : decode cX8_fault 36 = .ok (.ldc2_w 145, 3) := by decide +kernel
theorem dX8_fault_39 : decode cX8_fault 39 = .ok (.invokestatic 83, 3) := by decide +kernel
theorem dX8_fault_42 : decode cX8_fault 42 = .ok (.istore 5, 2) := by decide +kernel
theorem dX8_fault_44 : decode cX8_fault 44 = .ok (.iload 4, 2) := by decide +kernel
theorem dX8_fault_46 : decode cX8_fault 46 = .ok (.ifCond .le 12, 3) := by decide +kernel
theorem dX8_fault_49 : decode cX8_fault 49 = .ok (.iload 4, 2) := by decide +kernel
theorem dX8_fault_51 : decode cX8_fault 51 = .ok (.iload_n 1, 1) := by decide +kernel
theorem dX8_fault_52 : decode cX8_fault 52 = .ok (.if_icmp .gt 20, 3) := by decide +kernel
theorem dX8_fault_55 : decode cX8_fault 55 = .ok (.goto 15, 3) := by decide +kernel
theorem dX8_fault_58 : decode cX8_fault 58 = .ok (.iload 5, 2) := by decide +kernel
theorem dX8_fault_60 : decode cX8_fault 60 = .ok (.ifCond .ne 12, 3) := by decide +kernel
theorem dX8_fault_63 : decode cX8_fault 63 = .ok (.iload_n 3, 1) := by decide +kernel
theorem dX8_fault_64 : decode cX8_fault 64 = .ok (.invokestatic 147, 3) := by decide +kernel
theorem dX8_fault_67 : decode cX8_fault 67 = .ok (.ifCond .ge 5, 3) := by decide +kernel
theorem dX8_fault_70 : decode cX8_fault 70 = .ok (.iload_n 2, 1) := by decide +kernel
theorem dX8_fault_71 : decode cX8_fault 71 = .ok (.ireturn, 1) := by decide +kernel
theorem dX8_fault_72 : decode cX8_fault 72 = .ok (.iload 4, 2) := by decide +kernel
theorem dX8_fault_74 : decode cX8_fault 74 = .ok (.ifCond .le 25, 3) := by decide +kernel
theorem dX8_fault_77 : decode cX8_fault 77 = .ok (.aload_n 0, 1) := by decide +kernel
theorem dX8_fault_78 : decode cX8_fault 78 = .ok (.getfield 40, 3) := by decide +kernel
theorem dX8_fault_81 : decode cX8_fault 81 = .ok (.aload_n 0, 1) := by decide +kernel
theorem dX8_fault_82 : decode cX8_fault 82 = .ok (.getfield 137, 3) := by decide +kernel
theorem dX8_fault_85 : decode cX8_fault 85 = .ok (.iconst 1, 1) := by decide +kernel
theorem dX8_fault_86 : decode cX8_fault 86 = .ok (.isub, 1) := by decide +kernel
theorem dX8_fault_87 : decode cX8_fault 87 = .ok (.dup2, 1) := by decide +kernel
theorem dX8_fault_88 : decode cX8_fault 88 = .ok (.iaload, 1) := by decide +kernel
theorem dX8_fault_89 : decode cX8_fault 89 = .ok (.iload 4, 2) := by decide +kernel
theorem dX8_fault_91 : decode cX8_fault 91 = .ok (.ior, 1) := by decide +kernel
theorem dX8_fault_92 : decode cX8_fault 92 = .ok (.iastore, 1) := by decide +kernel
theorem dX8_fault_93 : decode cX8_fault 93 = .ok (.iload 4, 2) := by decide +kernel
theorem dX8_fault_95 : decode cX8_fault 95 = .ok (.istore_n 1, 1) := by decide +kernel
theorem dX8_fault_96 : decode cX8_fault 96 = .ok (.goto 80, 3) := by decide +kernel
theorem dX8_fault_99 : decode cX8_fault 99 = .ok (.aload_n 0, 1) := by decide +kernel
theorem dX8_fault_100 : decode cX8_fault 100 = .ok (.getfield 34, 3) := by decide +kernel
theorem dX8_fault_103 : decode cX8_fault 103 = .ok (.aload_n 0, 1) := by decide +kernel
theorem dX8_fault_104 : decode cX8_fault 104 = .ok (.getfield 137, 3) := by decide +kernel
theorem dX8_fault_107 : decode cX8_fault 107 = .ok (.iload 5, 2) := by decide +kernel
theorem dX8_fault_109 : decode cX8_fault 109 = .ok (.ifCond .eq 7, 3) := by decide +kernel
theorem dX8_fault_112 : decode cX8_fault 112 = .ok (.iconst 0, 1) := by decide +kernel
theorem dX8_fault_113 : decode cX8_fault 113 = .ok (.goto 7, 3) := by decide +kernel
theorem dX8_fault_116 : decode cX8_fault 116 = .ok (.iload_n 3, 1) := by decide +kernel
theorem dX8_fault_117 : decode cX8_fault 117 = .ok (.invokestatic 147, 3) := by decide +kernel
theorem dX8_fault_120 : decode cX8_fault 120 = .ok (.iastore, 1) := by decide +kernel
theorem dX8_fault_121 : decode cX8_fault 121 = .ok (.aload_n 0, 1) := by decide +kernel
theorem dX8_fault_122 : decode cX8_fault 122 = .ok (.getfield 37, 3) := by decide +kernel
theorem dX8_fault_125 : decode cX8_fault 125 = .ok (.aload_n 0, 1) := by decide +kernel
theorem dX8_fault_126 : decode cX8_fault 126 = .ok (.getfield 137, 3) := by decide +kernel
theorem dX8_fault_129 : decode cX8_fault 129 = .ok (.iload 5, 2) := by decide +kernel
theorem dX8_fault_131 : decode cX8_fault 131 = .ok (.ifCond .eq 10, 3) := by decide +kernel
theorem dX8_fault_134 : decode cX8_fault 134 = .ok (.iload_n 3, 1) := by decide +kernel
theorem dX8_fault_135 : decode cX8_fault 135 = .ok (.bipush 97, 2) := by decide +kernel
theorem dX8_fault_137 : decode cX8_fault 137 = .ok (.isub, 1) := by decide +kernel
theorem dX8_fault_138 : decode cX8_fault 138 = .ok (.goto 5, 3) := by decide +kernel
theorem dX8_fault_141 : decode cX8_fault 141 = .ok (.bipush (-6), 2) := by decide +kernel
theorem dX8_fault_143 : decode cX8_fault 143 = .ok (.iastore, 1) := by decide +kernel
theorem dX8_fault_144 : decode cX8_fault 144 = .ok (.aload_n 0, 1) := by decide +kernel
theorem dX8_fault_145 : decode cX8_fault 145 = .ok (.getfield 40, 3) := by decide +kernel
theorem dX8_fault_148 : decode cX8_fault 148 = .ok (.aload_n 0, 1) := by decide +kernel
theorem dX8_fault_149 : decode cX8_fault 149 = .ok (.getfield 137, 3) := by decide +kernel
theorem dX8_fault_152 : decode cX8_fault 152 = .ok (.iconst 0, 1) := by decide +kernel
theorem dX8_fault_153 : decode cX8_fault 153 = .ok (.iastore, 1) := by decide +kernel
theorem dX8_fault_154 : decode cX8_fault 154 = .ok (.iload 5, 2) := by decide +kernel
theorem dX8_fault_156 : decode cX8_fault 156 = .ok (.ifCond .eq 7, 3) := by decide +kernel
theorem dX8_fault_159 : decode cX8_fault 159 = .ok (.iconst 0, 1) := by decide +kernel
theorem dX8_fault_160 : decode cX8_fault 160 = .ok (.goto 5, 3) := by decide +kernel
theorem dX8_fault_163 : decode cX8_fault 163 = .ok (.bipush 16, 2) := by decide +kernel
theorem dX8_fault_165 : decode cX8_fault 165 = .ok (.istore_n 1, 1) := by decide +kernel
theorem dX8_fault_166 : decode cX8_fault 166 = .ok (.aload_n 0, 1) := by decide +kernel
theorem dX8_fault_167 : decode cX8_fault 167 = .ok (.dup, 1) := by decide +kernel
theorem dX8_fault_168 : decode cX8_fault 168 = .ok (.getfield 137, 3) := by decide +kernel
theorem dX8_fault_171 : decode cX8_fault 171 = .ok (.iconst 1, 1) := by decide +kernel
theorem dX8_fault_172 : decode cX8_fault 172 = .ok (.iadd, 1) := by decide +kernel
theorem dX8_fault_173 : decode cX8_fault 173 = .ok (.putfield 137, 3) := by decide +kernel
theorem dX8_fault_176 : decode cX8_fault 176 = .ok (.iinc 2 1, 3) := by decide +kernel
theorem dX8_fault_179 : decode cX8_fault 179 = .ok (.goto (-169), 3) := by decide +kernel
theorem dX8_fault_182 : decode cX8_fault 182 = .ok (.bipush (-6), 2) := by decide +kernel
theorem dX8_fault_184 : decode cX8_fault 184 = .ok (.ireturn, 1) := by decide +kernel
theorem dX8_boilsAt_0 : decode cX8_boilsAt 0 = .ok (.bipush 100, 2) := by decide +kernel
theorem dX8_boilsAt_2 : decode cX8_boilsAt 2 = .ok (.aload_n 0, 1) := by decide +kernel
theorem dX8_boilsAt_3 : decode cX8_boilsAt 3 = .ok (.getfield 92, 3) := by decide +kernel
theorem dX8_boilsAt_6 : decode cX8_boilsAt 6 = .ok (.iconst 3, 1) := by decide +kernel
theorem dX8_boilsAt_7 : decode cX8_boilsAt 7 = .ok (.idiv, 1) := by decide +kernel
theorem dX8_boilsAt_8 : decode cX8_boilsAt 8 = .ok (.isub, 1) := by decide +kernel
theorem dX8_boilsAt_9 : decode cX8_boilsAt 9 = .ok (.ireturn, 1) := by decide +kernel
theorem dX8_blows_0 : decode cX8_blows 0 = .ok (.iload_n 1, 1) := by decide +kernel
theorem dX8_blows_1 : decode cX8_blows 1 = .ok (.iconst 2, 1) := by decide +kernel
theorem dX8_blows_2 : decode cX8_blows 2 = .ok (.aload_n 0, 1) := by decide +kernel
theorem dX8_blows_3 : decode cX8_blows 3 = .ok (.getfield 98, 3) := by decide +kernel
theorem dX8_blows_6 : decode cX8_blows 6 = .ok (.imul, 1) := by decide +kernel
theorem dX8_blows_7 : decode cX8_blows 7 = .ok (.if_icmp .le 14, 3) := by decide +kernel
theorem dX8_blows_10 : decode cX8_blows 10 = .ok (.iload_n 1, 1) := by decide +kernel
theorem dX8_blows_11 : decode cX8_blows 11 = .ok (.iconst 2, 1) := by decide +kernel
theorem dX8_blows_12 : decode cX8_blows 12 = .ok (.aload_n 0, 1) := by decide +kernel
theorem dX8_blows_13 : decode cX8_blows 13 = .ok (.getfield 98, 3) := by decide +kernel
theorem dX8_blows_16 : decode cX8_blows 16 = .ok (.imul, 1) := by decide +kernel
theorem dX8_blows_17 : decode cX8_blows 17 = .ok (.isub, 1) := by decide +kernel
theorem dX8_blows_18 : decode cX8_blows 18 = .ok (.goto 4, 3) := by decide +kernel
theorem dX8_blows_21 : decode cX8_blows 21 = .ok (.iconst 0, 1) := by decide +kernel
theorem dX8_blows_22 : decode cX8_blows 22 = .ok (.ireturn, 1) := by decide +kernel
theorem dX8_costBy_0 : decode cX8_costBy 0 = .ok (.iconst 4, 1) := by decide +kernel
theorem dX8_costBy_1 : decode cX8_costBy 1 = .ok (.aload_n 0, 1) := by decide +kernel
theorem dX8_costBy_2 : decode cX8_costBy 2 = .ok (.iload_n 2, 1) := by decide +kernel
theorem dX8_costBy_3 : decode cX8_costBy 3 = .ok (.invokevirtual 150, 3) := by decide +kernel
theorem dX8_costBy_6 : decode cX8_costBy 6 = .ok (.iadd, 1) := by decide +kernel
theorem dX8_costBy_7 : decode cX8_costBy 7 = .ok (.iload_n 3, 1) := by decide +kernel
theorem dX8_costBy_8 : decode cX8_costBy 8 = .ok (.iconst 2, 1) := by decide +kernel
theorem dX8_costBy_9 : decode cX8_costBy 9 = .ok (.iand, 1) := by decide +kernel
theorem dX8_costBy_10 : decode cX8_costBy 10 = .ok (.ifCond .le 7, 3) := by decide +kernel
theorem dX8_costBy_13 : decode cX8_costBy 13 = .ok (.iconst 1, 1) := by decide +kernel
theorem dX8_costBy_14 : decode cX8_costBy 14 = .ok (.goto 4, 3) := by decide +kernel
theorem dX8_costBy_17 : decode cX8_costBy 17 = .ok (.iconst 0, 1) := by decide +kernel
theorem dX8_costBy_18 : decode cX8_costBy 18 = .ok (.iadd, 1) := by decide +kernel
theorem dX8_costBy_19 : decode cX8_costBy 19 = .ok (.iload_n 3, 1) := by decide +kernel
theorem dX8_costBy_20 : decode cX8_costBy 20 = .ok (.iconst 4, 1) := by decide +kernel
theorem dX8_costBy_21 : decode cX8_costBy 21 = .ok (.iand, 1) := by decide +kernel
theorem dX8_costBy_22 : decode cX8_costBy 22 = .ok (.ifCond .le 7, 3) := by decide +kernel
theorem dX8_costBy_25 : decode cX8_costBy 25 = .ok (.iconst 1, 1) := by decide +kernel
theorem dX8_costBy_26 : decode cX8_costBy 26 = .ok (.goto 4, 3) := by decide +kernel
theorem dX8_costBy_29 : decode cX8_costBy 29 = .ok (.iconst 0, 1) := by decide +kernel
theorem dX8_costBy_30 : decode cX8_costBy 30 = .ok (.iadd, 1) := by decide +kernel
theorem dX8_costBy_31 : decode cX8_costBy 31 = .ok (.istore 4, 2) := by decide +kernel
theorem dX8_costBy_33 : decode cX8_costBy 33 = .ok (.bipush 11, 2) := by decide +kernel
theorem dX8_costBy_35 : decode cX8_costBy 35 = .ok (.aload_n 0, 1) := by decide +kernel
theorem dX8_costBy_36 : decode cX8_costBy 36 = .ok (.getfield 16, 3) := by decide +kernel
theorem dX8_costBy_39 : decode cX8_costBy 39 = .ok (.iload_n 1, 1) := by decide +kernel
theorem dX8_costBy_40 : decode cX8_costBy 40 = .ok (.iaload, 1) := by decide +kernel
theorem dX8_costBy_41 : decode cX8_costBy 41 = .ok (.imul, 1) := by decide +kernel
theorem dX8_costBy_42 : decode cX8_costBy 42 = .ok (.iload 4, 2) := by decide +kernel
theorem dX8_costBy_44 : decode cX8_costBy 44 = .ok (.imul, 1) := by decide +kernel
theorem dX8_costBy_45 : decode cX8_costBy 45 = .ok (.iload_n 3, 1) := by decide +kernel
theorem dX8_costBy_46 : decode cX8_costBy 46 = .ok (.iconst 1, 1) := by decide +kernel
theorem dX8_costBy_47 : decode cX8_costBy 47 = .ok (.iand, 1) := by decide +kernel
theorem dX8_costBy_48 : decode cX8_costBy 48 = .ok (.ifCond .le 7, 3) := by decide +kernel
theorem dX8_costBy_51 : decode cX8_costBy 51 = .ok (.iconst 2, 1) := by decide +kernel
theorem dX8_costBy_52 : decode cX8_costBy 52 = .ok (.goto 4, 3) := by decide +kernel
theorem dX8_costBy_55 : decode cX8_costBy 55 = .ok (.iconst 1, 1) := by decide +kernel
theorem dX8_costBy_56 : decode cX8_costBy 56 = .ok (.imul, 1) := by decide +kernel
theorem dX8_costBy_57 : decode cX8_costBy 57 = .ok (.istore 5, 2) := by decide +kernel
theorem dX8_costBy_59 : decode cX8_costBy 59 = .ok (.iload_n 3, 1) := by decide +kernel
theorem dX8_costBy_60 : decode cX8_costBy 60 = .ok (.bipush 8, 2) := by decide +kernel
theorem dX8_costBy_62 : decode cX8_costBy 62 = .ok (.iand, 1) := by decide +kernel
theorem dX8_costBy_63 : decode cX8_costBy 63 = .ok (.ifCond .le 7, 3) := by decide +kernel
theorem dX8_costBy_66 : decode cX8_costBy 66 = .ok (.iconst 0, 1) := by decide +kernel
theorem dX8_costBy_67 : decode cX8_costBy 67 = .ok (.goto 21, 3) := by decide +kernel
theorem dX8_costBy_70 : decode cX8_costBy 70 = .ok (.aload_n 0, 1) := by decide +kernel
theorem dX8_costBy_71 : decode cX8_costBy 71 = .ok (.getfield 19, 3) := by decide +kernel
theorem dX8_costBy_74 : decode cX8_costBy 74 = .ok (.iload_n 1, 1) := by decide +kernel
theorem dX8_costBy_75 : decode cX8_costBy 75 = .ok (.iaload, 1) := by decide +kernel
theorem dX8_costBy_76 : decode cX8_costBy 76 = .ok (.iload_n 3, 1) := by decide +kernel
theorem dX8_costBy_77 : decode cX8_costBy 77 = .ok (.iconst 4, 1) := by decide +kernel
theorem dX8_costBy_78 : decode cX8_costBy 78 = .ok (.iand, 1) := by decide +kernel
theorem dX8_costBy_79 : decode cX8_costBy 79 = .ok (.ifCond .le 7, 3) := by decide +kernel
theorem dX8_costBy_82 : decode cX8_costBy 82 = .ok (.iconst 2, 1) := by decide +kernel
theorem dX8_costBy_83 : decode cX8_costBy 83 = .ok (.goto 4, 3) := by decide +kernel
theorem dX8_costBy_86 : decode cX8_costBy 86 = .ok (.iconst 1, 1) := by decide +kernel
theorem dX8_costBy_87 : decode cX8_costBy 87 = .ok (.imul, 1) := by decide +kernel
theorem dX8_costBy_88 : decode cX8_costBy 88 = .ok (.istore 6, 2) := by decide +kernel
theorem dX8_costBy_90 : decode cX8_costBy 90 = .ok (.iload 5, 2) := by decide +kernel
theorem dX8_costBy_92 : decode cX8_costBy 92 = .ok (.iload 6, 2) := by decide +kernel
theorem dX8_costBy_94 : decode cX8_costBy 94 = .ok (.iadd, 1) := by decide +kernel
theorem dX8_costBy_95 : decode cX8_costBy 95 = .ok (.ireturn, 1) := by decide +kernel
theorem dX8_windOn_0 : decode cX8_windOn 0 = .ok (.aload_n 0, 1) := by decide +kernel
theorem dX8_windOn_1 : decode cX8_windOn 1 = .ok (.getfield 7, 3) := by decide +kernel
theorem dX8_windOn_4 : decode cX8_windOn 4 = .ok (.iload_n 1, 1) := by decide +kernel
theorem dX8_windOn_5 : decode cX8_windOn 5 = .ok (.iaload, 1) := by decide +kernel
theorem dX8_windOn_6 : decode cX8_windOn 6 = .ok (.aload_n 0, 1) := by decide +kernel
theorem dX8_windOn_7 : decode cX8_windOn 7 = .ok (.getfield 153, 3) := by decide +kernel
theorem dX8_windOn_10 : decode cX8_windOn 10 = .ok (.iload_n 1, 1) := by decide +kernel
theorem dX8_windOn_11 : decode cX8_windOn 11 = .ok (.ishr, 1) := by decide +kernel
theorem dX8_windOn_12 : decode cX8_windOn 12 = .ok (.iconst 1, 1) := by decide +kernel
theorem dX8_windOn_13 : decode cX8_windOn 13 = .ok (.iand, 1) := by decide +kernel
theorem dX8_windOn_14 : decode cX8_windOn 14 = .ok (.iconst 1, 1) := by decide +kernel
theorem dX8_windOn_15 : decode cX8_windOn 15 = .ok (.if_icmp .ne 7, 3) := by decide +kernel
theorem dX8_windOn_18 : decode cX8_windOn 18 = .ok (.iconst 2, 1) := by decide +kernel
theorem dX8_windOn_19 : decode cX8_windOn 19 = .ok (.goto 4, 3) := by decide +kernel
theorem dX8_windOn_22 : decode cX8_windOn 22 = .ok (.iconst 0, 1) := by decide +kernel
theorem dX8_windOn_23 : decode cX8_windOn 23 = .ok (.iadd, 1) := by decide +kernel
theorem dX8_windOn_24 : decode cX8_windOn 24 = .ok (.istore_n 2, 1) := by decide +kernel
theorem dX8_windOn_25 : decode cX8_windOn 25 = .ok (.iload_n 2, 1) := by decide +kernel
theorem dX8_windOn_26 : decode cX8_windOn 26 = .ok (.iconst 4, 1) := by decide +kernel
theorem dX8_windOn_27 : decode cX8_windOn 27 = .ok (.if_icmp .le 7, 3) := by decide +kernel
theorem dX8_windOn_30 : decode cX8_windOn 30 = .ok (.iconst 4, 1) := by decide +kernel
theorem dX8_windOn_31 : decode cX8_windOn 31 = .ok (.goto 4, 3) := by decide +kernel
theorem dX8_windOn_34 : decode cX8_windOn 34 = .ok (.iload_n 2, 1) := by decide +kernel
theorem dX8_windOn_35 : decode cX8_windOn 35 = .ok (.ireturn, 1) := by decide +kernel
theorem dX8_actCost_0 : decode cX8_actCost 0 = .ok (.aload_n 0, 1) := by decide +kernel
theorem dX8_actCost_1 : decode cX8_actCost 1 = .ok (.getfield 34, 3) := by decide +kernel
theorem dX8_actCost_4 : decode cX8_actCost 4 = .ok (.iload_n 1, 1) := by decide +kernel
theorem dX8_actCost_5 : decode cX8_actCost 5 = .ok (.iaload, 1) := by decide +kernel
theorem dX8_actCost_6 : decode cX8_actCost 6 = .ok (.ifCond .ne 30, 3) := by decide +kernel
theorem dX8_actCost_9 : decode cX8_actCost 9 = .ok (.aload_n 0, 1) := by decide +kernel
theorem dX8_actCost_10 : decode cX8_actCost 10 = .ok (.aload_n 0, 1) := by decide +kernel
theorem dX8_actCost_11 : decode cX8_actCost 11 = .ok (.getfield 37, 3) := by decide +kernel
theorem dX8_actCost_14 : decode cX8_actCost 14 = .ok (.iload_n 1, 1) := by decide +kernel
theorem dX8_actCost_15 : decode cX8_actCost 15 = .ok (.iaload, 1) := by decide +kernel
theorem dX8_actCost_16 : decode cX8_actCost 16 = .ok (.aload_n 0, 1) := by decide +kernel
theorem dX8_actCost_17 : decode cX8_actCost 17 = .ok (.aload_n 0, 1) := by decide +kernel
theorem dX8_actCost_18 : decode cX8_actCost 18 = .ok (.getfield 101, 3) := by decide +kernel
theorem dX8_actCost_21 : decode cX8_actCost 21 = .ok (.invokevirtual 156, 3) := by decide +kernel
theorem dX8_actCost_24 : decode cX8_actCost 24 = .ok (.aload_n 0, 1) := by decide +kernel
theorem dX8_actCost_25 : decode cX8_actCost 25 = .ok (.getfield 40, 3) := by decide +kernel
theorem dX8_actCost_28 : decode cX8_actCost 28 = .ok (.iload_n 1, 1) := by decide +kernel
theorem dX8_actCost_29 : decode cX8_actCost 29 = .ok (.iaload, 1) := by decide +kernel
theorem dX8_actCost_30 : decode cX8_actCost 30 = .ok (.invokevirtual 159, 3) := by decide +kernel
theorem dX8_actCost_33 : decode cX8_actCost 33 = .ok (.goto 4, 3) := by decide +kernel
theorem dX8_actCost_36 : decode cX8_actCost 36 = .ok (.iconst 0, 1) := by decide +kernel
theorem dX8_actCost_37 : decode cX8_actCost 37 = .ok (.ireturn, 1) := by decide +kernel
theorem dX8_whyNotBoil_0 : decode cX8_whyNotBoil 0 = .ok (.aload_n 0, 1) := by decide +kernel
theorem dX8_whyNotBoil_1 : decode cX8_whyNotBoil 1 = .ok (.getfield 37, 3) := by decide +kernel
theorem dX8_whyNotBoil_4 : decode cX8_whyNotBoil 4 = .ok (.iload_n 1, 1) := by decide +kernel
theorem dX8_whyNotBoil_5 : decode cX8_whyNotBoil 5 = .ok (.iaload, 1) := by decide +kernel
theorem dX8_whyNotBoil_6 : decode cX8_whyNotBoil 6 = .ok (.istore_n 2, 1) := by decide +kernel
theorem dX8_whyNotBoil_7 : decode cX8_whyNotBoil 7 = .ok (.aload_n 0, 1) := by decide +kernel
theorem dX8_whyNotBoil_8 : decode cX8_whyNotBoil 8 = .ok (.iload_n 2, 1) := by decide +kernel
theorem dX8_whyNotBoil_9 : decode cX8_whyNotBoil 9 = .ok (.invokevirtual 163, 3) := by decide +kernel
theorem dX8_whyNotBoil_12 : decode cX8_whyNotBoil 12 = .ok (.ifCond .ne 5, 3) := by decide +kernel
theorem dX8_whyNotBoil_15 : decode cX8_whyNotBoil 15 = .ok (.iconst 1, 1) := by decide +kernel
theorem dX8_whyNotBoil_16 : decode cX8_whyNotBoil 16 = .ok (.ireturn, 1) := by decide +kernel
theorem dX8_whyNotBoil_17 : decode cX8_whyNotBoil 17 = .ok (.aload_n 0, 1) := by decide +kernel
theorem dX8_whyNotBoil_18 : decode cX8_whyNotBoil 18 = .ok (.getfield 22, 3) := by decide +kernel
theorem dX8_whyNotBoil_21 : decode cX8_whyNotBoil 21 = .ok (.iload_n 2, 1) := by decide +kernel
theorem dX8_whyNotBoil_22 : decode cX8_whyNotBoil 22 = .ok (.iaload, 1) := by decide +kernel
theorem dX8_whyNotBoil_23 : decode cX8_whyNotBoil 23 = .ok (.aload_n 0, 1) := by decide +kernel
theorem dX8_whyNotBoil_24 : decode cX8_whyNotBoil 24 = .ok (.invokevirtual 166, 3) := by decide +kernel
theorem dX8_whyNotBoil_27 : decode cX8_whyNotBoil 27 = .ok (.if_icmp .le 5, 3) := by decide +kernel
theorem dX8_whyNotBoil_30 : decode cX8_whyNotBoil 30 = .ok (.iconst 2, 1) := by decide +kernel
theorem dX8_whyNotBoil_31 : decode cX8_whyNotBoil 31 = .ok (.ireturn, 1) := by decide +kernel
theorem dX8_whyNotBoil_32 : decode cX8_whyNotBoil 32 = .ok (.aload_n 0, 1) := by decide +kernel
theorem dX8_whyNotBoil_33 : decode cX8_whyNotBoil 33 = .ok (.getfield 40, 3) := by decide +kernel
theorem dX8_whyNotBoil_36 : decode cX8_whyNotBoil 36 = .ok (.iload_n 1, 1) := by decide +kernel
theorem dX8_whyNotBoil_37 : decode cX8_whyNotBoil 37 = .ok (.iaload, 1) := by decide +kernel
theorem dX8_whyNotBoil_38 : decode cX8_whyNotBoil 38 = .ok (.iconst 4, 1) := by decide +kernel
theorem dX8_whyNotBoil_39 : decode cX8_whyNotBoil 39 = .ok (.iand, 1) := by decide +kernel
theorem dX8_whyNotBoil_40 : decode cX8_whyNotBoil 40 = .ok (.ifCond .le 25, 3) := by decide +kernel
theorem dX8_whyNotBoil_43 : decode cX8_whyNotBoil 43 = .ok (.aload_n 0, 1) := by decide +kernel
theorem dX8_whyNotBoil_44 : decode cX8_whyNotBoil 44 = .ok (.getfield 13, 3) := by decide +kernel
theorem dX8_whyNotBoil_47 : decode cX8_whyNotBoil 47 = .ok (.aload_n 0, 1) := by decide +kernel
theorem dX8_whyNotBoil_48 : decode cX8_whyNotBoil 48 = .ok (.getfield 101, 3) := by decide +kernel
theorem dX8_whyNotBoil_51 : decode cX8_whyNotBoil 51 = .ok (.iaload, 1) := by decide +kernel
theorem dX8_whyNotBoil_52 : decode cX8_whyNotBoil 52 = .ok (.iconst 1, 1) := by decide +kernel
theorem dX8_whyNotBoil_53 : decode cX8_whyNotBoil 53 = .ok (.if_icmp .ne 12, 3) := by decide +kernel
theorem dX8_whyNotBoil_56 : decode cX8_whyNotBoil 56 = .ok (.aload_n 0, 1) := by decide +kernel
theorem dX8_whyNotBoil_57 : decode cX8_whyNotBoil 57 = .ok (.getfield 116, 3) := by decide +kernel
theorem dX8_whyNotBoil_60 : decode cX8_whyNotBoil 60 = .ok (.ifCond .ne 5, 3) := by decide +kernel
theorem dX8_whyNotBoil_63 : decode cX8_whyNotBoil 63 = .ok (.iconst 3, 1) := by decide +kernel
theorem dX8_whyNotBoil_64 : decode cX8_whyNotBoil 64 = .ok (.ireturn, 1) := by decide +kernel
theorem dX8_whyNotBoil_65 : decode cX8_whyNotBoil 65 = .ok (.aload_n 0, 1) := by decide +kernel
theorem dX8_whyNotBoil_66 : decode cX8_whyNotBoil 66 = .ok (.iload_n 1, 1) := by decide +kernel
theorem dX8_whyNotBoil_67 : decode cX8_whyNotBoil 67 = .ok (.invokevirtual 170, 3) := by decide +kernel
theorem dX8_whyNotBoil_70 : decode cX8_whyNotBoil 70 = .ok (.aload_n 0, 1) := by decide +kernel
theorem dX8_whyNotBoil_71 : decode cX8_whyNotBoil 71 = .ok (.getfield 77, 3) := by decide +kernel
theorem dX8_whyNotBoil_74 : decode cX8_whyNotBoil 74 = .ok (.if_icmp .le 7, 3) := by decide +kernel
theorem dX8_whyNotBoil_77 : decode cX8_whyNotBoil 77 = .ok (.iconst 4, 1) := by decide +kernel
theorem dX8_whyNotBoil_78 : decode cX8_whyNotBoil 78 = .ok (.goto 4, 3) := by decide +kernel
theorem dX8_whyNotBoil_81 : decode cX8_whyNotBoil 81 = .ok (.iconst 0, 1) := by decide +kernel
theorem dX8_whyNotBoil_82 : decode cX8_whyNotBoil 82 = .ok (.ireturn, 1) := by decide +kernel
theorem dX8_whyNot_0 : decode cX8_whyNot 0 = .ok (.aload_n 0, 1) := by decide +kernel
theorem dX8_whyNot_1 : decode cX8_whyNot 1 = .ok (.getfield 34, 3) := by decide +kernel
theorem dX8_whyNot_4 : decode cX8_whyNot 4 = .ok (.iload_n 1, 1) := by decide +kernel
theorem dX8_whyNot_5 : decode cX8_whyNot 5 = .ok (.iaload, 1) := by decide +kernel
theorem dX8_whyNot_6 : decode cX8_whyNot 6 = .ok (.ifCond .ne 9, 3) := by decide +kernel
theorem dX8_whyNot_9 : decode cX8_whyNot 9 = .ok (.aload_n 0, 1) := by decide +kernel
theorem dX8_whyNot_10 : decode cX8_whyNot 10 = .ok (.iload_n 1, 1) := by decide +kernel
theorem dX8_whyNot_11 : decode cX8_whyNot 11 = .ok (.invokevirtual 173, 3) := by decide +kernel
theorem dX8_whyNot_14 : decode cX8_whyNot 14 = .ok (.ireturn, 1) := by decide +kernel
theorem dX8_whyNot_15 : decode cX8_whyNot 15 = .ok (.aload_n 0, 1) := by decide +kernel
theorem dX8_whyNot_16 : decode cX8_whyNot 16 = .ok (.getfield 34, 3) := by decide +kernel
theorem dX8_whyNot_19 : decode cX8_whyNot 19 = .ok (.iload_n 1, 1) := by decide +kernel
theorem dX8_whyNot_20 : decode cX8_whyNot 20 = .ok (.iaload, 1) := by decide +kernel
theorem dX8_whyNot_21 : decode cX8_whyNot 21 = .ok (.iconst 3, 1) := by decide +kernel
theorem dX8_whyNot_22 : decode cX8_whyNot 22 = .ok (.if_icmp .ne 21, 3) := by decide +kernel
theorem dX8_whyNot_25 : decode cX8_whyNot 25 = .ok (.aload_n 0, 1) := by decide +kernel
theorem dX8_whyNot_26 : decode cX8_whyNot 26 = .ok (.getfield 101, 3) := by decide +kernel
theorem dX8_whyNot_29 : decode cX8_whyNot 29 = .ok (.bipush 7, 2) := by decide +kernel
theorem dX8_whyNot_31 : decode cX8_whyNot 31 = .ok (.irem, 1) := by decide +kernel
theorem dX8_whyNot_32 : decode cX8_whyNot 32 = .ok (.aload_n 0, 1) := by decide +kernel
theorem dX8_whyNot_33 : decode cX8_whyNot 33 = .ok (.getfield 95, 3) := by decide +kernel
theorem dX8_whyNot_36 : decode cX8_whyNot 36 = .ok (.if_icmp .ne 7, 3) := by decide +kernel
theorem dX8_whyNot_39 : decode cX8_whyNot 39 = .ok (.iconst 5, 1) := by decide +kernel
theorem dX8_whyNot_40 : decode cX8_whyNot 40 = .ok (.goto 28, 3) := by decide +kernel
theorem dX8_whyNot_43 : decode cX8_whyNot 43 = .ok (.aload_n 0, 1) := by decide +kernel
theorem dX8_whyNot_44 : decode cX8_whyNot 44 = .ok (.getfield 34, 3) := by decide +kernel
theorem dX8_whyNot_47 : decode cX8_whyNot 47 = .ok (.iload_n 1, 1) := by decide +kernel
theorem dX8_whyNot_48 : decode cX8_whyNot 48 = .ok (.iaload, 1) := by decide +kernel
theorem dX8_whyNot_49 : decode cX8_whyNot 49 = .ok (.iconst 1, 1) := by decide +kernel
theorem dX8_whyNot_50 : decode cX8_whyNot 50 = .ok (.if_icmp .ne 17, 3) := by decide +kernel
theorem dX8_whyNot_53 : decode cX8_whyNot 53 = .ok (.aload_n 0, 1) := by decide +kernel
theorem dX8_whyNot_54 : decode cX8_whyNot 54 = .ok (.getfield 101, 3) := by decide +kernel
theorem dX8_whyNot_57 : decode cX8_whyNot 57 = .ok (.bipush 13, 2) := by decide +kernel
theorem dX8_whyNot_59 : decode cX8_whyNot 59 = .ok (.if_icmp .ne 8, 3) := by decide +kernel
theorem dX8_whyNot_62 : decode cX8_whyNot 62 = .ok (.bipush 6, 2) := by decide +kernel
theorem dX8_whyNot_64 : decode cX8_whyNot 64 = .ok (.goto 4, 3) := by decide +kernel
theorem dX8_whyNot_67 : decode cX8_whyNot 67 = .ok (.iconst 0, 1) := by decide +kernel
theorem dX8_whyNot_68 : decode cX8_whyNot 68 = .ok (.ireturn, 1) := by decide +kernel
theorem dX8_happen_0 : decode cX8_happen 0 = .ok (.aload_n 0, 1) := by decide +kernel
theorem dX8_happen_1 : decode cX8_happen 1 = .ok (.getfield 34, 3) := by decide +kernel
theorem dX8_happen_4 : decode cX8_happen 4 = .ok (.iload_n 1, 1) := by decide +kernel
theorem dX8_happen_5 : decode cX8_happen 5 = .ok (.iaload, 1) := by decide +kernel
theorem dX8_happen_6 : decode cX8_happen 6 = .ok (.tableswitch 77 0 2 #[26, 43, 69], 26) := by decide +kernel
theorem dX8_happen_32 : decode cX8_happen 32 = .ok (.aload_n 0, 1) := by decide +kernel
theorem dX8_happen_33 : decode cX8_happen 33 = .ok (.dup, 1) := by decide +kernel
theorem dX8_happen_34 : decode cX8_happen 34 = .ok (.getfield 77, 3) := by decide +kernel
theorem dX8_happen_37 : decode cX8_happen 37 = .ok (.aload_n 0, 1) := by decide +kernel
theorem dX8_happen_38 : decode cX8_happen 38 = .ok (.iload_n 1, 1) := by decide +kernel
theorem dX8_happen_39 : decode cX8_happen 39 = .ok (.invokevirtual 170, 3) := by decide +kernel
theorem dX8_happen_42 : decode cX8_happen 42 = .ok (.isub, 1) := by decide +kernel
theorem dX8_happen_43 : decode cX8_happen 43 = .ok (.putfield 77, 3) := by decide +kernel
theorem dX8_happen_46 : decode cX8_happen 46 = .ok (.goto 71, 3) := by decide +kernel
theorem dX8_happen_49 : decode cX8_happen 49 = .ok (.aload_n 0, 1) := by decide +kernel
theorem dX8_happen_50 : decode cX8_happen 50 = .ok (.dup, 1) := by decide +kernel
theorem dX8_happen_51 : decode cX8_happen 51 = .ok (.getfield 101, 3) := by decide +kernel
theorem dX8_happen_54 : decode cX8_happen 54 = .ok (.iconst 1, 1) := by decide +kernel
theorem dX8_happen_55 : decode cX8_happen 55 = .ok (.iadd, 1) := by decide +kernel
theorem dX8_happen_56 : decode cX8_happen 56 = .ok (.putfield 101, 3) := by decide +kernel
theorem dX8_happen_59 : decode cX8_happen 59 = .ok (.aload_n 0, 1) := by decide +kernel
theorem dX8_happen_60 : decode cX8_happen 60 = .ok (.aload_n 0, 1) := by decide +kernel
theorem dX8_happen_61 : decode cX8_happen 61 = .ok (.getfield 113, 3) := by decide +kernel
theorem dX8_happen_64 : decode cX8_happen 64 = .ok (.putfield 116, 3) := by decide +kernel
theorem dX8_happen_67 : decode cX8_happen 67 = .ok (.aload_n 0, 1) := by decide +kernel
theorem dX8_happen_68 : decode cX8_happen 68 = .ok (.iconst 0, 1) := by decide +kernel
theorem dX8_happen_69 : decode cX8_happen 69 = .ok (.putfield 113, 3) := by decide +kernel
theorem dX8_happen_72 : decode cX8_happen 72 = .ok (.goto 45, 3) := by decide +kernel
theorem dX8_happen_75 : decode cX8_happen 75 = .ok (.aload_n 0, 1) := by decide +kernel
theorem dX8_happen_76 : decode cX8_happen 76 = .ok (.iconst 1, 1) := by decide +kernel
theorem dX8_happen_77 : decode cX8_happen 77 = .ok (.putfield 113, 3) := by decide +kernel
theorem dX8_happen_80 : decode cX8_happen 80 = .ok (.goto 37, 3) := by decide +kernel
theorem dX8_happen_83 : decode cX8_happen 83 = .ok (.aload_n 0, 1) := by decide +kernel
theorem dX8_happen_84 : decode cX8_happen 84 = .ok (.aload_n 0, 1) := by decide +kernel
theorem dX8_happen_85 : decode cX8_happen 85 = .ok (.getfield 77, 3) := by decide +kernel
theorem dX8_happen_88 : decode cX8_happen 88 = .ok (.sipush 1000, 3) := by decide +kernel
theorem dX8_happen_91 : decode cX8_happen 91 = .ok (.iadd, 1) := by decide +kernel
theorem dX8_happen_92 : decode cX8_happen 92 = .ok (.aload_n 0, 1) := by decide +kernel
theorem dX8_happen_93 : decode cX8_happen 93 = .ok (.getfield 176, 3) := by decide +kernel
theorem dX8_happen_96 : decode cX8_happen 96 = .ok (.if_icmp .le 10, 3) := by decide +kernel
theorem dX8_happen_99 : decode cX8_happen 99 = .ok (.aload_n 0, 1) := by decide +kernel
theorem dX8_happen_100 : decode cX8_happen 100 = .ok (.getfield 176, 3) := by decide +kernel
theorem dX8_happen_103 : decode cX8_happen 103 = .ok (.goto 11, 3) := by decide +kernel
theorem dX8_happen_106 : decode cX8_happen 106 = .ok (.aload_n 0, 1) := by decide +kernel
theorem dX8_happen_107 : decode cX8_happen 107 = .ok (.getfield 77, 3) := by decide +kernel
theorem dX8_happen_110 : decode cX8_happen 110 = .ok (.sipush 1000, 3) := by decide +kernel
theorem dX8_happen_113 : decode cX8_happen 113 = .ok (.iadd, 1) := by decide +kernel
theorem dX8_happen_114 : decode cX8_happen 114 = .ok (.putfield 77, 3) := by decide +kernel
theorem dX8_happen_117 : decode cX8_happen 117 = .ok (.return_, 1) := by decide +kernel
theorem dX8_goPlan_0 : decode cX8_goPlan 0 = .ok (.aload_n 0, 1) := by decide +kernel
theorem dX8_goPlan_1 : decode cX8_goPlan 1 = .ok (.bipush (-6), 2) := by decide +kernel
theorem dX8_goPlan_3 : decode cX8_goPlan 3 = .ok (.putfield 179, 3) := by decide +kernel
theorem dX8_goPlan_6 : decode cX8_goPlan 6 = .ok (.aload_n 0, 1) := by decide +kernel
theorem dX8_goPlan_7 : decode cX8_goPlan 7 = .ok (.bipush (-6), 2) := by decide +kernel
theorem dX8_goPlan_9 : decode cX8_goPlan 9 = .ok (.putfield 182, 3) := by decide +kernel
theorem dX8_goPlan_12 : decode cX8_goPlan 12 = .ok (.aload_n 0, 1) := by decide +kernel
theorem dX8_goPlan_13 : decode cX8_goPlan 13 = .ok (.iconst 0, 1) := by decide +kernel
theorem dX8_goPlan_14 : decode cX8_goPlan 14 = .ok (.putfield 185, 3) := by decide +kernel
theorem dX8_goPlan_17 : decode cX8_goPlan 17 = .ok (.aload_n 0, 1) := by decide +kernel
theorem dX8_goPlan_18 : decode cX8_goPlan 18 = .ok (.iconst 0, 1) := by decide +kernel
theorem dX8_goPlan_19 : decode cX8_goPlan 19 = .ok (.putfield 188, 3) := by decide +kernel
theorem dX8_goPlan_22 : decode cX8_goPlan 22 = .ok (.iconst 0, 1) := by decide +kernel
theorem dX8_goPlan_23 : decode cX8_goPlan 23 = .ok (.istore_n 1, 1) := by decide +kernel
theorem dX8_goPlan_24 : decode cX8_goPlan 24 = .ok (.iload_n 1, 1) := by decide +kernel
theorem dX8_goPlan_25 : decode cX8_goPlan 25 = .ok (.bipush 14, 2) := by decide +kernel
theorem dX8_goPlan_27 : decode cX8_goPlan 27 = .ok (.if_icmp .ge 16, 3) := by decide +kernel
theorem dX8_goPlan_30 : decode cX8_goPlan 30 = .ok (.aload_n 0, 1) := by decide +kernel
theorem dX8_goPlan_31 : decode cX8_goPlan 31 = .ok (.getfield 49, 3) := by decide +kernel
theorem dX8_goPlan_34 : decode cX8_goPlan 34 = .ok (.iload_n 1, 1) := by decide +kernel
theorem dX8_goPlan_35 : decode cX8_goPlan 35 = .ok (.iconst 0, 1) := by decide +kernel
theorem dX8_goPlan_36 : decode cX8_goPlan 36 = .ok (.iastore, 1) := by decide +kernel
theorem dX8_goPlan_37 : decode cX8_goPlan 37 = .ok (.iinc 1 1, 3) := by decide +kernel
theorem dX8_goPlan_40 : decode cX8_goPlan 40 = .ok (.goto (-16), 3) := by decide +kernel
theorem dX8_goPlan_43 : decode cX8_goPlan 43 = .ok (.aload_n 0, 1) := by decide +kernel
theorem dX8_goPlan_44 : decode cX8_goPlan 44 = .ok (.getfield 52, 3) := by decide +kernel
theorem dX8_goPlan_47 : decode cX8_goPlan 47 = .ok (.iconst 0, 1) := by decide +kernel
theorem dX8_goPlan_48 : decode cX8_goPlan 48 = .ok (.aload_n 0, 1) := by decide +kernel
theorem dX8_goPlan_49 : decode cX8_goPlan 49 = .ok (.getfield 77, 3) := by decide +kernel
theorem dX8_goPlan_52 : decode cX8_goPlan 52 = .ok (.sipush 200, 3) := by decide +kernel
theorem dX8_goPlan_55 : decode cX8_goPlan 55 = .ok (.idiv, 1) := by decide +kernel
theorem dX8_goPlan_56 : decode cX8_goPlan 56 = .ok (.iastore, 1) := by decide +kernel
theorem dX8_goPlan_57 : decode cX8_goPlan 57 = .ok (.iconst 0, 1) := by decide +kernel
theorem dX8_goPlan_58 : decode cX8_goPlan 58 = .ok (.istore_n 1, 1) := by decide +kernel
theorem dX8_goPlan_59 : decode cX8_goPlan 59 = .ok (.iload_n 1, 1) := by decide +kernel
theorem dX8_goPlan_60 : decode cX8_goPlan 60 = .ok (.aload_n 0, 1) := by decide +kernel
theorem dX8_goPlan_61 : decode cX8_goPlan 61 = .ok (.getfield 137, 3) := by decide +kernel
theorem dX8_goPlan_64 : decode cX8_goPlan 64 = .ok (.if_icmp .ge 210, 3) := by decide +kernel
theorem dX8_goPlan_67 : decode cX8_goPlan 67 = .ok (.aload_n 0, 1) := by decide +kernel
theorem dX8_goPlan_68 : decode cX8_goPlan 68 = .ok (.getfield 179, 3) := by decide +kernel
theorem dX8_goPlan_71 : decode cX8_goPlan 71 = .ok (.ifCond .ge 203, 3) := by decide +kernel
theorem dX8_goPlan_74 : decode cX8_goPlan 74 = .ok (.aload_n 0, 1) := by decide +kernel
theorem dX8_goPlan_75 : decode cX8_goPlan 75 = .ok (.iload_n 1, 1) := by decide +kernel
theorem dX8_goPlan_76 : decode cX8_goPlan 76 = .ok (.invokevirtual 191, 3) := by decide +kernel
theorem dX8_goPlan_79 : decode cX8_goPlan 79 = .ok (.istore_n 2, 1) := by decide +kernel
theorem dX8_goPlan_80 : decode cX8_goPlan 80 = .ok (.aload_n 0, 1) := by decide +kernel
theorem dX8_goPlan_81 : decode cX8_goPlan 81 = .ok (.iload_n 2, 1) := by decide +kernel
theorem dX8_goPlan_82 : decode cX8_goPlan 82 = .ok (.ifCond .le 7, 3) := by decide +kernel
theorem dX8_goPlan_85 : decode cX8_goPlan 85 = .ok (.iload_n 1, 1) := by decide +kernel
theorem dX8_goPlan_86 : decode cX8_goPlan 86 = .ok (.goto 5, 3) := by decide +kernel
theorem dX8_goPlan_89 : decode cX8_goPlan 89 = .ok (.bipush (-6), 2) := by decide +kernel
theorem dX8_goPlan_91 : decode cX8_goPlan 91 = .ok (.putfield 179, 3) := by decide +kernel
theorem dX8_goPlan_94 : decode cX8_goPlan 94 = .ok (.aload_n 0, 1) := by decide +kernel
theorem dX8_goPlan_95 : decode cX8_goPlan 95 = .ok (.iload_n 2, 1) := by decide +kernel
theorem dX8_goPlan_96 : decode cX8_goPlan 96 = .ok (.ifCond .le 7, 3) := by decide +kernel
theorem dX8_goPlan_99 : decode cX8_goPlan 99 = .ok (.iload_n 2, 1) := by decide +kernel
theorem dX8_goPlan_100 : decode cX8_goPlan 100 = .ok (.goto 5, 3) := by decide +kernel
theorem dX8_goPlan_103 : decode cX8_goPlan 103 = .ok (.bipush (-6), 2) := by decide +kernel
theorem dX8_goPlan_105 : decode cX8_goPlan 105 = .ok (.putfield 182, 3) := by decide +kernel
theorem dX8_goPlan_108 : decode cX8_goPlan 108 = .ok (.iload_n 2, 1) := by decide +kernel
theorem dX8_goPlan_109 : decode cX8_goPlan 109 = .ok (.ifCond .ne 159, 3) := by decide +kernel
theorem dX8_goPlan_112 : decode cX8_goPlan 112 = .ok (.aload_n 0, 1) := by decide +kernel
theorem dX8_goPlan_113 : decode cX8_goPlan 113 = .ok (.getfield 43, 3) := by decide +kernel
theorem dX8_goPlan_116 : decode cX8_goPlan 116 = .ok (.iload_n 1, 1) := by decide +kernel
theorem dX8_goPlan_117 : decode cX8_goPlan 117 = .ok (.aload_n 0, 1) := by decide +kernel
theorem dX8_goPlan_118 : decode cX8_goPlan 118 = .ok (.iload_n 1, 1) := by decide +kernel
theorem dX8_goPlan_119 : decode cX8_goPlan 119 = .ok (.invokevirtual 170, 3) := by decide +kernel
theorem dX8_goPlan_122 : decode cX8_goPlan 122 = .ok (.iastore, 1) := by decide +kernel
theorem dX8_goPlan_123 : decode cX8_goPlan 123 = .ok (.aload_n 0, 1) := by decide +kernel
theorem dX8_goPlan_124 : decode cX8_goPlan 124 = .ok (.getfield 46, 3) := by decide +kernel
theorem dX8_goPlan_127 : decode cX8_goPlan 127 = .ok (.iload_n 1, 1) := by decide +kernel
theorem dX8_goPlan_128 : decode cX8_goPlan 128 = .ok (.aload_n 0, 1) := by decide +kernel
theorem dX8_goPlan_129 : decode cX8_goPlan 129 = .ok (.getfield 34, 3) := by decide +kernel
theorem dX8_goPlan_132 : decode cX8_goPlan 132 = .ok (.iload_n 1, 1) := by decide +kernel
theorem dX8_goPlan_133 : decode cX8_goPlan 133 = .ok (.iaload, 1) := by decide +kernel
theorem dX8_goPlan_134 : decode cX8_goPlan 134 = .ok (.ifCond .ne 50, 3) := by decide +kernel
theorem dX8_goPlan_137 : decode cX8_goPlan 137 = .ok (.bipush 11, 2) := by decide +kernel
theorem dX8_goPlan_139 : decode cX8_goPlan 139 = .ok (.aload_n 0, 1) := by decide +kernel
theorem dX8_goPlan_140 : decode cX8_goPlan 140 = .ok (.getfield 16, 3) := by decide +kernel
theorem dX8_goPlan_143 : decode cX8_goPlan 143 = .ok (.aload_n 0, 1) := by decide +kernel
theorem dX8_goPlan_144 : decode cX8_goPlan 144 = .ok (.getfield 37, 3) := by decide +kernel
theorem dX8_goPlan_147 : decode cX8_goPlan 147 = .ok (.iload_n 1, 1) := by decide +kernel
theorem dX8_goPlan_148 : decode cX8_goPlan 148 = .ok (.iaload, 1) := by decide +kernel
theorem dX8_goPlan_149 : decode cX8_goPlan 149 = .ok (.iaload, 1) := by decide +kernel
theorem dX8_goPlan_150 : decode cX8_goPlan 150 = .ok (.imul, 1) := by decide +kernel
theorem dX8_goPlan_151 : decode cX8_goPlan 151 = .ok (.aload_n 0, 1) := by decide +kernel
theorem dX8_goPlan_152 : decode cX8_goPlan 152 = .ok (.aload_n 0, 1) := by decide +kernel
theorem dX8_goPlan_153 : decode cX8_goPlan 153 = .ok (.aload_n 0, 1) := by decide +kernel
theorem dX8_goPlan_154 : decode cX8_goPlan 154 = .ok (.getfield 101, 3) := by decide +kernel
theorem dX8_goPlan_157 : decode cX8_goPlan 157 = .ok (.invokevirtual 156, 3) := by decide +kernel
theorem dX8_goPlan_160 : decode cX8_goPlan 160 = .ok (.invokevirtual 150, 3) := by decide +kernel
theorem dX8_goPlan_163 : decode cX8_goPlan 163 = .ok (.imul, 1) := by decide +kernel
theorem dX8_goPlan_164 : decode cX8_goPlan 164 = .ok (.aload_n 0, 1) := by decide +kernel
theorem dX8_goPlan_165 : decode cX8_goPlan 165 = .ok (.getfield 40, 3) := by decide +kernel
theorem dX8_goPlan_168 : decode cX8_goPlan 168 = .ok (.iload_n 1, 1) := by decide +kernel
theorem dX8_goPlan_169 : decode cX8_goPlan 169 = .ok (.iaload, 1) := by decide +kernel
theorem dX8_goPlan_170 : decode cX8_goPlan 170 = .ok (.iconst 1, 1) := by decide +kernel
theorem dX8_goPlan_171 : decode cX8_goPlan 171 = .ok (.iand, 1) := by decide +kernel
theorem dX8_goPlan_172 : decode cX8_goPlan 172 = .ok (.ifCond .le 7, 3) := by decide +kernel
theorem dX8_goPlan_175 : decode cX8_goPlan 175 = .ok (.iconst 2, 1) := by decide +kernel
theorem dX8_goPlan_176 : decode cX8_goPlan 176 = .ok (.goto 4, 3) := by decide +kernel
theorem dX8_goPlan_179 : decode cX8_goPlan 179 = .ok (.iconst 1, 1) := by decide +kernel
theorem dX8_goPlan_180 : decode cX8_goPlan 180 = .ok (.imul, 1) := by decide +kernel
theorem dX8_goPlan_181 : decode cX8_goPlan 181 = .ok (.goto 4, 3) := by decide +kernel
theorem dX8_goPlan_184 : decode cX8_goPlan 184 = .ok (.iconst 0, 1) := by decide +kernel
theorem dX8_goPlan_185 : decode cX8_goPlan 185 = .ok (.iastore, 1) := by decide +kernel
theorem dX8_goPlan_186 : decode cX8_goPlan 186 = .ok (.aload_n 0, 1) := by decide +kernel
theorem dX8_goPlan_187 : decode cX8_goPlan 187 = .ok (.dup, 1) := by decide +kernel
theorem dX8_goPlan_188 : decode cX8_goPlan 188 = .ok (.getfield 185, 3) := by decide +kernel
theorem dX8_goPlan_191 : decode cX8_goPlan 191 = .ok (.aload_n 0, 1) := by decide +kernel
theorem dX8_goPlan_192 : decode cX8_goPlan 192 = .ok (.getfield 43, 3) := by decide +kernel
theorem dX8_goPlan_195 : decode cX8_goPlan 195 = .ok (.iload_n 1, 1) := by decide +kernel
theorem dX8_goPlan_196 : decode cX8_goPlan 196 = .ok (.iaload, 1) := by decide +kernel
theorem dX8_goPlan_197 : decode cX8_goPlan 197 = .ok (.iadd, 1) := by decide +kernel
theorem dX8_goPlan_198 : decode cX8_goPlan 198 = .ok (.putfield 185, 3) := by decide +kernel
theorem dX8_goPlan_201 : decode cX8_goPlan 201 = .ok (.aload_n 0, 1) := by decide +kernel
theorem dX8_goPlan_202 : decode cX8_goPlan 202 = .ok (.getfield 49, 3) := by decide +kernel
theorem dX8_goPlan_205 : decode cX8_goPlan 205 = .ok (.aload_n 0, 1) := by decide +kernel
theorem dX8_goPlan_206 : decode cX8_goPlan 206 = .ok (.getfield 101, 3) := by decide +kernel
theorem dX8_goPlan_209 : decode cX8_goPlan 209 = .ok (.dup2, 1) := by decide +kernel
theorem dX8_goPlan_210 : decode cX8_goPlan 210 = .ok (.iaload, 1) := by decide +kernel
theorem dX8_goPlan_211 : decode cX8_goPlan 211 = .ok (.aload_n 0, 1) := by decide +kernel
theorem dX8_goPlan_212 : decode cX8_goPlan 212 = .ok (.getfield 43, 3) := by decide +kernel
theorem dX8_goPlan_215 : decode cX8_goPlan 215 = .ok (.iload_n 1, 1) := by decide +kernel
theorem dX8_goPlan_216 : decode cX8_goPlan 216 = .ok (.iaload, 1) := by decide +kernel
theorem dX8_goPlan_217 : decode cX8_goPlan 217 = .ok (.iadd, 1) := by decide +kernel
theorem dX8_goPlan_218 : decode cX8_goPlan 218 = .ok (.iastore, 1) := by decide +kernel
theorem dX8_goPlan_219 : decode cX8_goPlan 219 = .ok (.aload_n 0, 1) := by decide +kernel
theorem dX8_goPlan_220 : decode cX8_goPlan 220 = .ok (.dup, 1) := by decide +kernel
theorem dX8_goPlan_221 : decode cX8_goPlan 221 = .ok (.getfield 188, 3) := by decide +kernel
theorem dX8_goPlan_224 : decode cX8_goPlan 224 = .ok (.aload_n 0, 1) := by decide +kernel
theorem dX8_goPlan_225 : decode cX8_goPlan 225 = .ok (.getfield 34, 3) := by decide +kernel
theorem dX8_goPlan_228 : decode cX8_goPlan 228 = .ok (.iload_n 1, 1) := by decide +kernel
theorem dX8_goPlan_229 : decode cX8_goPlan 229 = .ok (.iaload, 1) := by decide +kernel
theorem dX8_goPlan_230 : decode cX8_goPlan 230 = .ok (.ifCond .ne 7, 3) := by decide +kernel
theorem dX8_goPlan_233 : decode cX8_goPlan 233 = .ok (.iconst 1, 1) := by decide +kernel
theorem dX8_goPlan_234 : decode cX8_goPlan 234 = .ok (.goto 4, 3) := by decide +kernel
theorem dX8_goPlan_237 : decode cX8_goPlan 237 = .ok (.iconst 0, 1) := by decide +kernel
theorem dX8_goPlan_238 : decode cX8_goPlan 238 = .ok (.iadd, 1) := by decide +kernel
theorem dX8_goPlan_239 : decode cX8_goPlan 239 = .ok (.putfield 188, 3) := by decide +kernel
theorem dX8_goPlan_242 : decode cX8_goPlan 242 = .ok (.aload_n 0, 1) := by decide +kernel
theorem dX8_goPlan_243 : decode cX8_goPlan 243 = .ok (.iload_n 1, 1) := by decide +kernel
theorem dX8_goPlan_244 : decode cX8_goPlan 244 = .ok (.invokevirtual 194, 3) := by decide +kernel
theorem dX8_goPlan_247 : decode cX8_goPlan 247 = .ok (.aload_n 0, 1) := by decide +kernel
theorem dX8_goPlan_248 : decode cX8_goPlan 248 = .ok (.iload_n 1, 1) := by decide +kernel
theorem dX8_goPlan_249 : decode cX8_goPlan 249 = .ok (.invokevirtual 198, 3) := by decide +kernel
theorem dX8_goPlan_252 : decode cX8_goPlan 252 = .ok (.aload_n 0, 1) := by decide +kernel
theorem dX8_goPlan_253 : decode cX8_goPlan 253 = .ok (.getfield 52, 3) := by decide +kernel
theorem dX8_goPlan_256 : decode cX8_goPlan 256 = .ok (.iload_n 1, 1) := by decide +kernel
theorem dX8_goPlan_257 : decode cX8_goPlan 257 = .ok (.iconst 1, 1) := by decide +kernel
theorem dX8_goPlan_258 : decode cX8_goPlan 258 = .ok (.iadd, 1) := by decide +kernel
theorem dX8_goPlan_259 : decode cX8_goPlan 259 = .ok (.aload_n 0, 1) := by decide +kernel
theorem dX8_goPlan_260 : decode cX8_goPlan 260 = .ok (.getfield 77, 3) := by decide +kernel
theorem dX8_goPlan_263 : decode cX8_goPlan 263 = .ok (.sipush 200, 3) := by decide +kernel
theorem dX8_goPlan_266 : decode cX8_goPlan 266 = .ok (.idiv, 1) := by decide +kernel
theorem dX8_goPlan_267 : decode cX8_goPlan 267 = .ok (.iastore, 1) := by decide +kernel
theorem dX8_goPlan_268 : decode cX8_goPlan 268 = .ok (.iinc 1 1, 3) := by decide +kernel
theorem dX8_goPlan_271 : decode cX8_goPlan 271 = .ok (.goto (-212), 3) := by decide +kernel
theorem dX8_goPlan_274 : decode cX8_goPlan 274 = .ok (.return_, 1) := by decide +kernel
theorem dX8_leak_0 : decode cX8_leak 0 = .ok (.iload_n 1, 1) := by decide +kernel
theorem dX8_leak_1 : decode cX8_leak 1 = .ok (.aload_n 0, 1) := by decide +kernel
theorem dX8_leak_2 : decode cX8_leak 2 = .ok (.getfield 201, 3) := by decide +kernel
theorem dX8_leak_5 : decode cX8_leak 5 = .ok (.if_icmp .ne 35, 3) := by decide +kernel
theorem dX8_leak_8 : decode cX8_leak 8 = .ok (.aload_n 0, 1) := by decide +kernel
theorem dX8_leak_9 : decode cX8_leak 9 = .ok (.dup, 1) := by decide +kernel
theorem dX8_leak_10 : decode cX8_leak 10 = .ok (.getfield 77, 3) := by decide +kernel
theorem dX8_leak_13 : decode cX8_leak 13 = .ok (.aload_n 0, 1) := by decide +kernel
theorem dX8_leak_14 : decode cX8_leak 14 = .ok (.getfield 204, 3) := by decide +kernel
theorem dX8_leak_17 : decode cX8_leak 17 = .ok (.isub, 1) := by decide +kernel
theorem dX8_leak_18 : decode cX8_leak 18 = .ok (.putfield 77, 3) := by decide +kernel
theorem dX8_leak_21 : decode cX8_leak 21 = .ok (.aload_n 0, 1) := by decide +kernel
theorem dX8_leak_22 : decode cX8_leak 22 = .ok (.aload_n 0, 1) := by decide +kernel
theorem dX8_leak_23 : decode cX8_leak 23 = .ok (.getfield 77, 3) := by decide +kernel
theorem dX8_leak_26 : decode cX8_leak 26 = .ok (.ifCond .ge 7, 3) := by decide +kernel
theorem dX8_leak_29 : decode cX8_leak 29 = .ok (.iload_n 1, 1) := by decide +kernel
theorem dX8_leak_30 : decode cX8_leak 30 = .ok (.goto 7, 3) := by decide +kernel
theorem dX8_leak_33 : decode cX8_leak 33 = .ok (.aload_n 0, 1) := by decide +kernel
theorem dX8_leak_34 : decode cX8_leak 34 = .ok (.getfield 179, 3) := by decide +kernel
theorem dX8_leak_37 : decode cX8_leak 37 = .ok (.putfield 179, 3) := by decide +kernel
theorem dX8_leak_40 : decode cX8_leak 40 = .ok (.return_, 1) := by decide +kernel
theorem dX8_keepNow_0 : decode cX8_keepNow 0 = .ok (.aload_n 0, 1) := by decide +kernel
theorem dX8_keepNow_1 : decode cX8_keepNow 1 = .ok (.aload_n 0, 1) := by decide +kernel
theorem dX8_keepNow_2 : decode cX8_keepNow 2 = .ok (.getfield 77, 3) := by decide +kernel
theorem dX8_keepNow_5 : decode cX8_keepNow 5 = .ok (.putfield 207, 3) := by decide +kernel
theorem dX8_keepNow_8 : decode cX8_keepNow 8 = .ok (.aload_n 0, 1) := by decide +kernel
theorem dX8_keepNow_9 : decode cX8_keepNow 9 = .ok (.aload_n 0, 1) := by decide +kernel
theorem dX8_keepNow_10 : decode cX8_keepNow 10 = .ok (.getfield 101, 3) := by decide +kernel
theorem dX8_keepNow_13 : decode cX8_keepNow 13 = .ok (.putfield 210, 3) := by decide +kernel
theorem dX8_keepNow_16 : decode cX8_keepNow 16 = .ok (.aload_n 0, 1) := by decide +kernel
theorem dX8_keepNow_17 : decode cX8_keepNow 17 = .ok (.aload_n 0, 1) := by decide +kernel
theorem dX8_keepNow_18 : decode cX8_keepNow 18 = .ok (.getfield 113, 3) := by decide +kernel
theorem dX8_keepNow_21 : decode cX8_keepNow 21 = .ok (.putfield 213, 3) := by decide +kernel
theorem dX8_keepNow_24 : decode cX8_keepNow 24 = .ok (.aload_n 0, 1) := by decide +kernel
theorem dX8_keepNow_25 : decode cX8_keepNow 25 = .ok (.aload_n 0, 1) := by decide +kernel
theorem dX8_keepNow_26 : decode cX8_keepNow 26 = .ok (.getfield 116, 3) := by decide +kernel
theorem dX8_keepNow_29 : decode cX8_keepNow 29 = .ok (.putfield 216, 3) := by decide +kernel
theorem dX8_keepNow_32 : decode cX8_keepNow 32 = .ok (.aload_n 0, 1) := by decide +kernel
theorem dX8_keepNow_33 : decode cX8_keepNow 33 = .ok (.iconst 0, 1) := by decide +kernel
theorem dX8_keepNow_34 : decode cX8_keepNow 34 = .ok (.putfield 153, 3) := by decide +kernel
theorem dX8_keepNow_37 : decode cX8_keepNow 37 = .ok (.aload_n 0, 1) := by decide +kernel
theorem dX8_keepNow_38 : decode cX8_keepNow 38 = .ok (.bipush (-6), 2) := by decide +kernel
theorem dX8_keepNow_40 : decode cX8_keepNow 40 = .ok (.putfield 201, 3) := by decide +kernel
theorem dX8_keepNow_43 : decode cX8_keepNow 43 = .ok (.aload_n 0, 1) := by decide +kernel
theorem dX8_keepNow_44 : decode cX8_keepNow 44 = .ok (.iconst 0, 1) := by decide +kernel
theorem dX8_keepNow_45 : decode cX8_keepNow 45 = .ok (.putfield 204, 3) := by decide +kernel
theorem dX8_keepNow_48 : decode cX8_keepNow 48 = .ok (.aload_n 0, 1) := by decide +kernel
theorem dX8_keepNow_49 : decode cX8_keepNow 49 = .ok (.sipush 4000, 3) := by decide +kernel
theorem dX8_keepNow_52 : decode cX8_keepNow 52 = .ok (.putfield 176, 3) := by decide +kernel
theorem dX8_keepNow_55 : decode cX8_keepNow 55 = .ok (.return_, 1) := by decide +kernel
theorem dX8_putBack_0 : decode cX8_putBack 0 = .ok (.aload_n 0, 1) := by decide +kernel
theorem dX8_putBack_1 : decode cX8_putBack 1 = .ok (.aload_n 0, 1) := by decide +kernel
theorem dX8_putBack_2 : decode cX8_putBack 2 = .ok (.getfield 207, 3) := by decide +kernel
theorem dX8_putBack_5 : decode cX8_putBack 5 = .ok (.putfield 77, 3) := by decide +kernel
theorem dX8_putBack_8 : decode cX8_putBack 8 = .ok (.aload_n 0, 1) := by decide +kernel
theorem dX8_putBack_9 : decode cX8_putBack 9 = .ok (.aload_n 0, 1) := by decide +kernel
theorem dX8_putBack_10 : decode cX8_putBack 10 = .ok (.getfield 210, 3) := by decide +kernel
theorem dX8_putBack_13 : decode cX8_putBack 13 = .ok (.putfield 101, 3) := by decide +kernel
theorem dX8_putBack_16 : decode cX8_putBack 16 = .ok (.aload_n 0, 1) := by decide +kernel
theorem dX8_putBack_17 : decode cX8_putBack 17 = .ok (.aload_n 0, 1) := by decide +kernel
theorem dX8_putBack_18 : decode cX8_putBack 18 = .ok (.getfield 213, 3) := by decide +kernel
theorem dX8_putBack_21 : decode cX8_putBack 21 = .ok (.putfield 113, 3) := by decide +kernel
theorem dX8_putBack_24 : decode cX8_putBack 24 = .ok (.aload_n 0, 1) := by decide +kernel
theorem dX8_putBack_25 : decode cX8_putBack 25 = .ok (.aload_n 0, 1) := by decide +kernel
theorem dX8_putBack_26 : decode cX8_putBack 26 = .ok (.getfield 216, 3) := by decide +kernel
theorem dX8_putBack_29 : decode cX8_putBack 29 = .ok (.putfield 116, 3) := by decide +kernel
theorem dX8_putBack_32 : decode cX8_putBack 32 = .ok (.return_, 1) := by decide +kernel
theorem dX8_refusal_0 : decode cX8_refusal 0 = .ok (.aload_n 0, 1) := by decide +kernel
theorem dX8_refusal_1 : decode cX8_refusal 1 = .ok (.invokevirtual 219, 3) := by decide +kernel
theorem dX8_refusal_4 : decode cX8_refusal 4 = .ok (.ifCond .lt 6, 3) := by decide +kernel
theorem dX8_refusal_7 : decode cX8_refusal 7 = .ok (.bipush (-5), 2) := by decide +kernel
theorem dX8_refusal_9 : decode cX8_refusal 9 = .ok (.ireturn, 1) := by decide +kernel
theorem dX8_refusal_10 : decode cX8_refusal 10 = .ok (.aload_n 0, 1) := by decide +kernel
theorem dX8_refusal_11 : decode cX8_refusal 11 = .ok (.invokevirtual 222, 3) := by decide +kernel
theorem dX8_refusal_14 : decode cX8_refusal 14 = .ok (.aload_n 0, 1) := by decide +kernel
theorem dX8_refusal_15 : decode cX8_refusal 15 = .ok (.invokevirtual 225, 3) := by decide +kernel
theorem dX8_refusal_18 : decode cX8_refusal 18 = .ok (.aload_n 0, 1) := by decide +kernel
theorem dX8_refusal_19 : decode cX8_refusal 19 = .ok (.aload_n 0, 1) := by decide +kernel
theorem dX8_refusal_20 : decode cX8_refusal 20 = .ok (.getfield 77, 3) := by decide +kernel
theorem dX8_refusal_23 : decode cX8_refusal 23 = .ok (.putfield 228, 3) := by decide +kernel
theorem dX8_refusal_26 : decode cX8_refusal 26 = .ok (.aload_n 0, 1) := by decide +kernel
theorem dX8_refusal_27 : decode cX8_refusal 27 = .ok (.aload_n 0, 1) := by decide +kernel
theorem dX8_refusal_28 : decode cX8_refusal 28 = .ok (.getfield 101, 3) := by decide +kernel
theorem dX8_refusal_31 : decode cX8_refusal 31 = .ok (.putfield 231, 3) := by decide +kernel
theorem dX8_refusal_34 : decode cX8_refusal 34 = .ok (.aload_n 0, 1) := by decide +kernel
theorem dX8_refusal_35 : decode cX8_refusal 35 = .ok (.aload_n 0, 1) := by decide +kernel
theorem dX8_refusal_36 : decode cX8_refusal 36 = .ok (.getfield 13, 3) := by decide +kernel
theorem dX8_refusal_39 : decode cX8_refusal 39 = .ok (.aload_n 0, 1) := by decide +kernel
theorem dX8_refusal_40 : decode cX8_refusal 40 = .ok (.getfield 101, 3) := by decide +kernel
theorem dX8_refusal_43 : decode cX8_refusal 43 = .ok (.iaload, 1) := by decide +kernel
theorem dX8_refusal_44 : decode cX8_refusal 44 = .ok (.iconst 1, 1) := by decide +kernel
theorem dX8_refusal_45 : decode cX8_refusal 45 = .ok (.if_icmp .ne 14, 3) := by decide +kernel
theorem dX8_refusal_48 : decode cX8_refusal 48 = .ok (.aload_n 0, 1) := by decide +kernel
theorem dX8_refusal_49 : decode cX8_refusal 49 = .ok (.getfield 116, 3) := by decide +kernel
theorem dX8_refusal_52 : decode cX8_refusal 52 = .ok (.ifCond .ne 7, 3) := by decide +kernel
theorem dX8_refusal_55 : decode cX8_refusal 55 = .ok (.iconst 1, 1) := by decide +kernel
theorem dX8_refusal_56 : decode cX8_refusal 56 = .ok (.goto 4, 3) := by decide +kernel
theorem dX8_refusal_59 : decode cX8_refusal 59 = .ok (.iconst 0, 1) := by decide +kernel
theorem dX8_refusal_60 : decode cX8_refusal 60 = .ok (.putfield 234, 3) := by decide +kernel
theorem dX8_refusal_63 : decode cX8_refusal 63 = .ok (.aload_n 0, 1) := by decide +kernel
theorem dX8_refusal_64 : decode cX8_refusal 64 = .ok (.invokevirtual 237, 3) := by decide +kernel
theorem dX8_refusal_67 : decode cX8_refusal 67 = .ok (.aload_n 0, 1) := by decide +kernel
theorem dX8_refusal_68 : decode cX8_refusal 68 = .ok (.getfield 179, 3) := by decide +kernel
theorem dX8_refusal_71 : decode cX8_refusal 71 = .ok (.ifCond .lt 8, 3) := by decide +kernel
theorem dX8_refusal_74 : decode cX8_refusal 74 = .ok (.bipush (-3), 2) := by decide +kernel
theorem dX8_refusal_76 : decode cX8_refusal 76 = .ok (.goto 5, 3) := by decide +kernel
theorem dX8_refusal_79 : decode cX8_refusal 79 = .ok (.bipush (-6), 2) := by decide +kernel
theorem dX8_refusal_81 : decode cX8_refusal 81 = .ok (.ireturn, 1) := by decide +kernel
theorem dX8_judge_0 : decode cX8_judge 0 = .ok (.iload_n 1, 1) := by decide +kernel
theorem dX8_judge_1 : decode cX8_judge 1 = .ok (.i2l, 1) := by decide +kernel
theorem dX8_judge_2 : decode cX8_judge 2 = .ok (.lconst 0, 1) := by decide +kernel
theorem dX8_judge_3 : decode cX8_judge 3 = .ok (.ldc2_w 240, 3) := by decide +kernel
theorem dX8_judge_6 : decode cX8_judge 6 = .ok (.invokestatic 83, 3) := by decide +kernel
theorem dX8_judge_9 : decode cX8_judge 9 = .ok (.ifCond .ne 6, 3) := by decide +kernel
theorem dX8_judge_12 : decode cX8_judge 12 = .ok (.bipush (-2), 2) := by decide +kernel
theorem dX8_judge_14 : decode cX8_judge 14 = .ok (.ireturn, 1) := by decide +kernel
theorem dX8_judge_15 : decode cX8_judge 15 = .ok (.aload_n 0, 1) := by decide +kernel
theorem dX8_judge_16 : decode cX8_judge 16 = .ok (.invokevirtual 242, 3) := by decide +kernel
theorem dX8_judge_19 : decode cX8_judge 19 = .ok (.istore_n 2, 1) := by decide +kernel
theorem dX8_judge_20 : decode cX8_judge 20 = .ok (.iload_n 2, 1) := by decide +kernel
theorem dX8_judge_21 : decode cX8_judge 21 = .ok (.bipush (-5), 2) := by decide +kernel
theorem dX8_judge_23 : decode cX8_judge 23 = .ok (.if_icmp .eq 14, 3) := by decide +kernel
theorem dX8_judge_26 : decode cX8_judge 26 = .ok (.iload_n 1, 1) := by decide +kernel
theorem dX8_judge_27 : decode cX8_judge 27 = .ok (.iconst 1, 1) := by decide +kernel
theorem dX8_judge_28 : decode cX8_judge 28 = .ok (.if_icmp .le 11, 3) := by decide +kernel
theorem dX8_judge_31 : decode cX8_judge 31 = .ok (.iload_n 2, 1) := by decide +kernel
theorem dX8_judge_32 : decode cX8_judge 32 = .ok (.bipush (-3), 2) := by decide +kernel
theorem dX8_judge_34 : decode cX8_judge 34 = .ok (.if_icmp .ne 5, 3) := by decide +kernel
theorem dX8_judge_37 : decode cX8_judge 37 = .ok (.iload_n 2, 1) := by decide +kernel
theorem dX8_judge_38 : decode cX8_judge 38 = .ok (.ireturn, 1) := by decide +kernel
theorem dX8_judge_39 : decode cX8_judge 39 = .ok (.iload_n 1, 1) := by decide +kernel
theorem dX8_judge_40 : decode cX8_judge 40 = .ok (.ifCond .ne 10, 3) := by decide +kernel
theorem dX8_judge_43 : decode cX8_judge 43 = .ok (.aload_n 0, 1) := by decide +kernel
theorem dX8_judge_44 : decode cX8_judge 44 = .ok (.getfield 179, 3) := by decide +kernel
theorem dX8_judge_47 : decode cX8_judge 47 = .ok (.goto 31, 3) := by decide +kernel
theorem dX8_judge_50 : decode cX8_judge 50 = .ok (.iload_n 1, 1) := by decide +kernel
theorem dX8_judge_51 : decode cX8_judge 51 = .ok (.iconst 1, 1) := by decide +kernel
theorem dX8_judge_52 : decode cX8_judge 52 = .ok (.if_icmp .ne 10, 3) := by decide +kernel
theorem dX8_judge_55 : decode cX8_judge 55 = .ok (.aload_n 0, 1) := by decide +kernel
theorem dX8_judge_56 : decode cX8_judge 56 = .ok (.getfield 182, 3) := by decide +kernel
theorem dX8_judge_59 : decode cX8_judge 59 = .ok (.goto 19, 3) := by decide +kernel
theorem dX8_judge_62 : decode cX8_judge 62 = .ok (.iload_n 1, 1) := by decide +kernel
theorem dX8_judge_63 : decode cX8_judge 63 = .ok (.iconst 2, 1) := by decide +kernel
theorem dX8_judge_64 : decode cX8_judge 64 = .ok (.if_icmp .ne 10, 3) := by decide +kernel
theorem dX8_judge_67 : decode cX8_judge 67 = .ok (.aload_n 0, 1) := by decide +kernel
theorem dX8_judge_68 : decode cX8_judge 68 = .ok (.getfield 185, 3) := by decide +kernel
theorem dX8_judge_71 : decode cX8_judge 71 = .ok (.goto 7, 3) := by decide +kernel
theorem dX8_judge_74 : decode cX8_judge 74 = .ok (.aload_n 0, 1) := by decide +kernel
theorem dX8_judge_75 : decode cX8_judge 75 = .ok (.getfield 188, 3) := by decide +kernel
theorem dX8_judge_78 : decode cX8_judge 78 = .ok (.ireturn, 1) := by decide +kernel
theorem dX8_behind_0 : decode cX8_behind 0 = .ok (.iload_n 1, 1) := by decide +kernel
theorem dX8_behind_1 : decode cX8_behind 1 = .ok (.i2l, 1) := by decide +kernel
theorem dX8_behind_2 : decode cX8_behind 2 = .ok (.lconst 0, 1) := by decide +kernel
theorem dX8_behind_3 : decode cX8_behind 3 = .ok (.ldc2_w 245, 3) := by decide +kernel
theorem dX8_behind_6 : decode cX8_behind 6 = .ok (.invokestatic 83, 3) := by decide +kernel
theorem dX8_behind_9 : decode cX8_behind 9 = .ok (.ifCond .ne 6, 3) := by decide +kernel
theorem dX8_behind_12 : decode cX8_behind 12 = .ok (.bipush (-2), 2) := by decide +kernel
theorem dX8_behind_14 : decode cX8_behind 14 = .ok (.ireturn, 1) := by decide +kernel
theorem dX8_behind_15 : decode cX8_behind 15 = .ok (.aload_n 0, 1) := by decide +kernel
theorem dX8_behind_16 : decode cX8_behind 16 = .ok (.invokevirtual 242, 3) := by decide +kernel
theorem dX8_behind_19 : decode cX8_behind 19 = .ok (.istore_n 2, 1) := by decide +kernel
theorem dX8_behind_20 : decode cX8_behind 20 = .ok (.iload_n 2, 1) := by decide +kernel
theorem dX8_behind_21 : decode cX8_behind 21 = .ok (.bipush (-6), 2) := by decide +kernel
theorem dX8_behind_23 : decode cX8_behind 23 = .ok (.if_icmp .eq 5, 3) := by decide +kernel
theorem dX8_behind_26 : decode cX8_behind 26 = .ok (.iload_n 2, 1) := by decide +kernel
theorem dX8_behind_27 : decode cX8_behind 27 = .ok (.ireturn, 1) := by decide +kernel
theorem dX8_behind_28 : decode cX8_behind 28 = .ok (.iload_n 1, 1) := by decide +kernel
theorem dX8_behind_29 : decode cX8_behind 29 = .ok (.ifCond .ne 10, 3) := by decide +kernel
theorem dX8_behind_32 : decode cX8_behind 32 = .ok (.aload_n 0, 1) := by decide +kernel
theorem dX8_behind_33 : decode cX8_behind 33 = .ok (.getfield 228, 3) := by decide +kernel
theorem dX8_behind_36 : decode cX8_behind 36 = .ok (.goto 19, 3) := by decide +kernel
theorem dX8_behind_39 : decode cX8_behind 39 = .ok (.iload_n 1, 1) := by decide +kernel
theorem dX8_behind_40 : decode cX8_behind 40 = .ok (.iconst 1, 1) := by decide +kernel
theorem dX8_behind_41 : decode cX8_behind 41 = .ok (.if_icmp .ne 10, 3) := by decide +kernel
theorem dX8_behind_44 : decode cX8_behind 44 = .ok (.aload_n 0, 1) := by decide +kernel
theorem dX8_behind_45 : decode cX8_behind 45 = .ok (.getfield 231, 3) := by decide +kernel
theorem dX8_behind_48 : decode cX8_behind 48 = .ok (.goto 7, 3) := by decide +kernel
theorem dX8_behind_51 : decode cX8_behind 51 = .ok (.aload_n 0, 1) := by decide +kernel
theorem dX8_behind_52 : decode cX8_behind 52 = .ok (.getfield 234, 3) := by decide +kernel
theorem dX8_behind_55 : decode cX8_behind 55 = .ok (.ireturn, 1) := by decide +kernel
theorem dX8_cost_0 : decode cX8_cost 0 = .ok (.iload_n 2, 1) := by decide +kernel
theorem dX8_cost_1 : decode cX8_cost 1 = .ok (.i2l, 1) := by decide +kernel
theorem dX8_cost_2 : decode cX8_cost 2 = .ok (.lconst 0, 1) := by decide +kernel
theorem dX8_cost_3 : decode cX8_cost 3 = .ok (.lconst 1, 1) := by decide +kernel
theorem dX8_cost_4 : decode cX8_cost 4 = .ok (.invokestatic 83, 3) := by decide +kernel
theorem dX8_cost_7 : decode cX8_cost 7 = .ok (.ifCond .ne 6, 3) := by decide +kernel
theorem dX8_cost_10 : decode cX8_cost 10 = .ok (.bipush (-2), 2) := by decide +kernel
theorem dX8_cost_12 : decode cX8_cost 12 = .ok (.ireturn, 1) := by decide +kernel
theorem dX8_cost_13 : decode cX8_cost 13 = .ok (.aload_n 0, 1) := by decide +kernel
theorem dX8_cost_14 : decode cX8_cost 14 = .ok (.invokevirtual 242, 3) := by decide +kernel
theorem dX8_cost_17 : decode cX8_cost 17 = .ok (.istore_n 3, 1) := by decide +kernel
theorem dX8_cost_18 : decode cX8_cost 18 = .ok (.iload_n 3, 1) := by decide +kernel
theorem dX8_cost_19 : decode cX8_cost 19 = .ok (.bipush (-6), 2) := by decide +kernel
theorem dX8_cost_21 : decode cX8_cost 21 = .ok (.if_icmp .eq 5, 3) := by decide +kernel
theorem dX8_cost_24 : decode cX8_cost 24 = .ok (.iload_n 3, 1) := by decide +kernel
theorem dX8_cost_25 : decode cX8_cost 25 = .ok (.ireturn, 1) := by decide +kernel
theorem dX8_cost_26 : decode cX8_cost 26 = .ok (.iload_n 1, 1) := by decide +kernel
theorem dX8_cost_27 : decode cX8_cost 27 = .ok (.i2l, 1) := by decide +kernel
theorem dX8_cost_28 : decode cX8_cost 28 = .ok (.lconst 0, 1) := by decide +kernel
theorem dX8_cost_29 : decode cX8_cost 29 = .ok (.aload_n 0, 1) := by decide +kernel
theorem dX8_cost_30 : decode cX8_cost 30 = .ok (.getfield 137, 3) := by decide +kernel
theorem dX8_cost_33 : decode cX8_cost 33 = .ok (.iconst 1, 1) := by decide +kernel
theorem dX8_cost_34 : decode cX8_cost 34 = .ok (.isub, 1) := by decide +kernel
theorem dX8_cost_35 : decode cX8_cost 35 = .ok (.i2l, 1) := by decide +kernel
theorem dX8_cost_36 : decode cX8_cost 36 = .ok (.invokestatic 83, 3) := by decide +kernel
theorem dX8_cost_39 : decode cX8_cost 39 = .ok (.ifCond .ne 5, 3) := by decide +kernel
theorem dX8_cost_42 : decode cX8_cost 42 = .ok (.iconst (-1), 1) := by decide +kernel
theorem dX8_cost_43 : decode cX8_cost 43 = .ok (.ireturn, 1) := by decide +kernel
theorem dX8_cost_44 : decode cX8_cost 44 = .ok (.iload_n 2, 1) := by decide +kernel
theorem dX8_cost_45 : decode cX8_cost 45 = .ok (.ifCond .ne 12, 3) := by decide +kernel
theorem dX8_cost_48 : decode cX8_cost 48 = .ok (.aload_n 0, 1) := by decide +kernel
theorem dX8_cost_49 : decode cX8_cost 49 = .ok (.getfield 43, 3) := by decide +kernel
theorem dX8_cost_52 : decode cX8_cost 52 = .ok (.iload_n 1, 1) := by decide +kernel
theorem dX8_cost_53 : decode cX8_cost 53 = .ok (.iaload, 1) := by decide +kernel
theorem dX8_cost_54 : decode cX8_cost 54 = .ok (.goto 9, 3) := by decide +kernel
theorem dX8_cost_57 : decode cX8_cost 57 = .ok (.aload_n 0, 1) := by decide +kernel
theorem dX8_cost_58 : decode cX8_cost 58 = .ok (.getfield 46, 3) := by decide +kernel
theorem dX8_cost_61 : decode cX8_cost 61 = .ok (.iload_n 1, 1) := by decide +kernel
theorem dX8_cost_62 : decode cX8_cost 62 = .ok (.iaload, 1) := by decide +kernel
theorem dX8_cost_63 : decode cX8_cost 63 = .ok (.ireturn, 1) := by decide +kernel
theorem dX8_spent_0 : decode cX8_spent 0 = .ok (.iload_n 1, 1) := by decide +kernel
theorem dX8_spent_1 : decode cX8_spent 1 = .ok (.invokestatic 119, 3) := by decide +kernel
theorem dX8_spent_4 : decode cX8_spent 4 = .ok (.ifCond .ne 5, 3) := by decide +kernel
theorem dX8_spent_7 : decode cX8_spent 7 = .ok (.iconst (-1), 1) := by decide +kernel
theorem dX8_spent_8 : decode cX8_spent 8 = .ok (.ireturn, 1) := by decide +kernel
theorem dX8_spent_9 : decode cX8_spent 9 = .ok (.aload_n 0, 1) := by decide +kernel
theorem dX8_spent_10 : decode cX8_spent 10 = .ok (.invokevirtual 242, 3) := by decide +kernel
theorem dX8_spent_13 : decode cX8_spent 13 = .ok (.istore_n 2, 1) := by decide +kernel
theorem dX8_spent_14 : decode cX8_spent 14 = .ok (.iload_n 2, 1) := by decide +kernel
theorem dX8_spent_15 : decode cX8_spent 15 = .ok (.bipush (-6), 2) := by decide +kernel
theorem dX8_spent_17 : decode cX8_spent 17 = .ok (.if_icmp .eq 7, 3) := by decide +kernel
theorem dX8_spent_20 : decode cX8_spent 20 = .ok (.iload_n 2, 1) := by decide +kernel
theorem dX8_spent_21 : decode cX8_spent 21 = .ok (.goto 9, 3) := by decide +kernel
theorem dX8_spent_24 : decode cX8_spent 24 = .ok (.aload_n 0, 1) := by decide +kernel
theorem dX8_spent_25 : decode cX8_spent 25 = .ok (.getfield 49, 3) := by decide +kernel
theorem dX8_spent_28 : decode cX8_spent 28 = .ok (.iload_n 1, 1) := by decide +kernel
theorem dX8_spent_29 : decode cX8_spent 29 = .ok (.iaload, 1) := by decide +kernel
theorem dX8_spent_30 : decode cX8_spent 30 = .ok (.ireturn, 1) := by decide +kernel
theorem dX8_done_0 : decode cX8_done 0 = .ok (.aload_n 0, 1) := by decide +kernel
theorem dX8_done_1 : decode cX8_done 1 = .ok (.invokevirtual 242, 3) := by decide +kernel
theorem dX8_done_4 : decode cX8_done 4 = .ok (.istore_n 1, 1) := by decide +kernel
theorem dX8_done_5 : decode cX8_done 5 = .ok (.iload_n 1, 1) := by decide +kernel
theorem dX8_done_6 : decode cX8_done 6 = .ok (.bipush (-6), 2) := by decide +kernel
theorem dX8_done_8 : decode cX8_done 8 = .ok (.if_icmp .eq 5, 3) := by decide +kernel
theorem dX8_done_11 : decode cX8_done 11 = .ok (.iload_n 1, 1) := by decide +kernel
theorem dX8_done_12 : decode cX8_done 12 = .ok (.ireturn, 1) := by decide +kernel
theorem dX8_done_13 : decode cX8_done 13 = .ok (.aload_n 0, 1) := by decide +kernel
theorem dX8_done_14 : decode cX8_done 14 = .ok (.invokevirtual 225, 3) := by decide +kernel
theorem dX8_done_17 : decode cX8_done 17 = .ok (.aload_n 0, 1) := by decide +kernel
theorem dX8_done_18 : decode cX8_done 18 = .ok (.iconst 0, 1) := by decide +kernel
theorem dX8_done_19 : decode cX8_done 19 = .ok (.putfield 134, 3) := by decide +kernel
theorem dX8_done_22 : decode cX8_done 22 = .ok (.aload_n 0, 1) := by decide +kernel
theorem dX8_done_23 : decode cX8_done 23 = .ok (.getfield 137, 3) := by decide +kernel
theorem dX8_done_26 : decode cX8_done 26 = .ok (.ireturn, 1) := by decide +kernel
theorem dX8_plain_0 : decode cX8_plain 0 = .ok (.aload_n 0, 1) := by decide +kernel
theorem dX8_plain_1 : decode cX8_plain 1 = .ok (.iload_n 1, 1) := by decide +kernel
theorem dX8_plain_2 : decode cX8_plain 2 = .ok (.invokevirtual 163, 3) := by decide +kernel
theorem dX8_plain_5 : decode cX8_plain 5 = .ok (.ifCond .eq 10, 3) := by decide +kernel
theorem dX8_plain_8 : decode cX8_plain 8 = .ok (.iload_n 2, 1) := by decide +kernel
theorem dX8_plain_9 : decode cX8_plain 9 = .ok (.invokestatic 119, 3) := by decide +kernel
theorem dX8_plain_12 : decode cX8_plain 12 = .ok (.ifCond .ne 5, 3) := by decide +kernel
theorem dX8_plain_15 : decode cX8_plain 15 = .ok (.iconst (-1), 1) := by decide +kernel
theorem dX8_plain_16 : decode cX8_plain 16 = .ok (.ireturn, 1) := by decide +kernel
theorem dX8_plain_17 : decode cX8_plain 17 = .ok (.iload_n 3, 1) := by decide +kernel
theorem dX8_plain_18 : decode cX8_plain 18 = .ok (.i2l, 1) := by decide +kernel
theorem dX8_plain_19 : decode cX8_plain 19 = .ok (.lconst 0, 1) := by decide +kernel
theorem dX8_plain_20 : decode cX8_plain 20 = .ok (.ldc2_w 247, 3) := by decide +kernel
theorem dX8_plain_23 : decode cX8_plain 23 = .ok (.invokestatic 83, 3) := by decide +kernel
theorem dX8_plain_26 : decode cX8_plain 26 = .ok (.ifCond .eq 18, 3) := by decide +kernel
theorem dX8_plain_29 : decode cX8_plain 29 = .ok (.aload_n 0, 1) := by decide +kernel
theorem dX8_plain_30 : decode cX8_plain 30 = .ok (.iload_n 1, 1) := by decide +kernel
theorem dX8_plain_31 : decode cX8_plain 31 = .ok (.aload_n 0, 1) := by decide +kernel
theorem dX8_plain_32 : decode cX8_plain 32 = .ok (.getfield 7, 3) := by decide +kernel
theorem dX8_plain_35 : decode cX8_plain 35 = .ok (.iload_n 2, 1) := by decide +kernel
theorem dX8_plain_36 : decode cX8_plain 36 = .ok (.iaload, 1) := by decide +kernel
theorem dX8_plain_37 : decode cX8_plain 37 = .ok (.iload_n 3, 1) := by decide +kernel
theorem dX8_plain_38 : decode cX8_plain 38 = .ok (.invokevirtual 159, 3) := by decide +kernel
theorem dX8_plain_41 : decode cX8_plain 41 = .ok (.goto 5, 3) := by decide +kernel
theorem dX8_plain_44 : decode cX8_plain 44 = .ok (.bipush (-2), 2) := by decide +kernel
theorem dX8_plain_46 : decode cX8_plain 46 = .ok (.ireturn, 1) := by decide +kernel
theorem dX8_layPortions_0 : decode cX8_layPortions 0 = .ok (.aload_n 0, 1) := by decide +kernel
theorem dX8_layPortions_1 : decode cX8_layPortions 1 = .ok (.iconst 0, 1) := by decide +kernel
theorem dX8_layPortions_2 : decode cX8_layPortions 2 = .ok (.putfield 249, 3) := by decide +kernel
theorem dX8_layPortions_5 : decode cX8_layPortions 5 = .ok (.iconst 1, 1) := by decide +kernel
theorem dX8_layPortions_6 : decode cX8_layPortions 6 = .ok (.istore_n 2, 1) := by decide +kernel
theorem dX8_layPortions_7 : decode cX8_layPortions 7 = .ok (.iload_n 1, 1) := by decide +kernel
theorem dX8_layPortions_8 : decode cX8_layPortions 8 = .ok (.istore_n 3, 1) := by decide +kernel
theorem dX8_layPortions_9 : decode cX8_layPortions 9 = .ok (.iconst 5, 1) := by decide +kernel
theorem dX8_layPortions_10 : decode cX8_layPortions 10 = .ok (.istore 4, 2) := by decide +kernel
theorem dX8_layPortions_12 : decode cX8_layPortions 12 = .ok (.iload 4, 2) := by decide +kernel
theorem dX8_layPortions_14 : decode cX8_layPortions 14 = .ok (.ifCond .lt 70, 3) := by decide +kernel
theorem dX8_layPortions_17 : decode cX8_layPortions 17 = .ok (.aload_n 0, 1) := by decide +kernel
theorem dX8_layPortions_18 : decode cX8_layPortions 18 = .ok (.getfield 55, 3) := by decide +kernel
theorem dX8_layPortions_21 : decode cX8_layPortions 21 = .ok (.iload 4, 2) := by decide +kernel
theorem dX8_layPortions_23 : decode cX8_layPortions 23 = .ok (.iload_n 3, 1) := by decide +kernel
theorem dX8_layPortions_24 : decode cX8_layPortions 24 = .ok (.bipush 10, 2) := by decide +kernel
theorem dX8_layPortions_26 : decode cX8_layPortions 26 = .ok (.irem, 1) := by decide +kernel
theorem dX8_layPortions_27 : decode cX8_layPortions 27 = .ok (.iastore, 1) := by decide +kernel
theorem dX8_layPortions_28 : decode cX8_layPortions 28 = .ok (.aload_n 0, 1) := by decide +kernel
theorem dX8_layPortions_29 : decode cX8_layPortions 29 = .ok (.dup, 1) := by decide +kernel
theorem dX8_layPortions_30 : decode cX8_layPortions 30 = .ok (.getfield 249, 3) := by decide +kernel
theorem dX8_layPortions_33 : decode cX8_layPortions 33 = .ok (.aload_n 0, 1) := by decide +kernel
theorem dX8_layPortions_34 : decode cX8_layPortions 34 = .ok (.getfield 55, 3) := by decide +kernel
theorem dX8_layPortions_37 : decode cX8_layPortions 37 = .ok (.iload 4, 2) := by decide +kernel
theorem dX8_layPortions_39 : decode cX8_layPortions 39 = .ok (.iaload, 1) := by decide +kernel
theorem dX8_layPortions_40 : decode cX8_layPortions 40 = .ok (.iadd, 1) := by decide +kernel
theorem dX8_layPortions_41 : decode cX8_layPortions 41 = .ok (.putfield 249, 3) := by decide +kernel
theorem dX8_layPortions_44 : decode cX8_layPortions 44 = .ok (.iload_n 2, 1) := by decide +kernel
theorem dX8_layPortions_45 : decode cX8_layPortions 45 = .ok (.ifCond .eq 26, 3) := by decide +kernel
theorem dX8_layPortions_48 : decode cX8_layPortions 48 = .ok (.aload_n 0, 1) := by decide +kernel
theorem dX8_layPortions_49 : decode cX8_layPortions 49 = .ok (.getfield 55, 3) := by decide +kernel
theorem dX8_layPortions_52 : decode cX8_layPortions 52 = .ok (.iload 4, 2) := by decide +kernel
theorem dX8_layPortions_54 : decode cX8_layPortions 54 = .ok (.iaload, 1) := by decide +kernel
theorem dX8_layPortions_55 : decode cX8_layPortions 55 = .ok (.ifCond .eq 12, 3) := by decide +kernel
theorem dX8_layPortions_58 : decode cX8_layPortions 58 = .ok (.aload_n 0, 1) := by decide +kernel
theorem dX8_layPortions_59 : decode cX8_layPortions 59 = .ok (.iload 4, 2) := by decide +kernel
theorem dX8_layPortions_61 : decode cX8_layPortions 61 = .ok (.invokevirtual 163, 3) := by decide +kernel
theorem dX8_layPortions_64 : decode cX8_layPortions 64 = .ok (.ifCond .eq 7, 3) := by decide +kernel
theorem dX8_layPortions_67 : decode cX8_layPortions 67 = .ok (.iconst 1, 1) := by decide +kernel
theorem dX8_layPortions_68 : decode cX8_layPortions 68 = .ok (.goto 4, 3) := by decide +kernel
theorem dX8_layPortions_71 : decode cX8_layPortions 71 = .ok (.iconst 0, 1) := by decide +kernel
theorem dX8_layPortions_72 : decode cX8_layPortions 72 = .ok (.istore_n 2, 1) := by decide +kernel
theorem dX8_layPortions_73 : decode cX8_layPortions 73 = .ok (.iload_n 3, 1) := by decide +kernel
theorem dX8_layPortions_74 : decode cX8_layPortions 74 = .ok (.bipush 10, 2) := by decide +kernel
theorem dX8_layPortions_76 : decode cX8_layPortions 76 = .ok (.idiv, 1) := by decide +kernel
theorem dX8_layPortions_77 : decode cX8_layPortions 77 = .ok (.istore_n 3, 1) := by decide +kernel
theorem dX8_layPortions_78 : decode cX8_layPortions 78 = .ok (.iinc 4 (-1), 3) := by decide +kernel
theorem dX8_layPortions_81 : decode cX8_layPortions 81 = .ok (.goto (-69), 3) := by decide +kernel
theorem dX8_layPortions_84 : decode cX8_layPortions 84 = .ok (.iload_n 2, 1) := by decide +kernel
theorem dX8_layPortions_85 : decode cX8_layPortions 85 = .ok (.ireturn, 1) := by decide +kernel
theorem dX8_arePortions_0 : decode cX8_arePortions 0 = .ok (.iload_n 0, 1) := by decide +kernel
theorem dX8_arePortions_1 : decode cX8_arePortions 1 = .ok (.i2l, 1) := by decide +kernel
theorem dX8_arePortions_2 : decode cX8_arePortions 2 = .ok (.lconst 0, 1) := by decide +kernel
theorem dX8_arePortions_3 : decode cX8_arePortions 3 = .ok (.ldc2_w 252, 3) := by decide +kernel
theorem dX8_arePortions_6 : decode cX8_arePortions 6 = .ok (.invokestatic 83, 3) := by decide +kernel
theorem dX8_arePortions_9 : decode cX8_arePortions 9 = .ok (.ireturn, 1) := by decide +kernel
theorem dX8_shared_0 : decode cX8_shared 0 = .ok (.iload_n 1, 1) := by decide +kernel
theorem dX8_shared_1 : decode cX8_shared 1 = .ok (.invokestatic 254, 3) := by decide +kernel
theorem dX8_shared_4 : decode cX8_shared 4 = .ok (.ifCond .ne 6, 3) := by decide +kernel
theorem dX8_shared_7 : decode cX8_shared 7 = .ok (.bipush (-2), 2) := by decide +kernel
theorem dX8_shared_9 : decode cX8_shared 9 = .ok (.ireturn, 1) := by decide +kernel
theorem dX8_shared_10 : decode cX8_shared 10 = .ok (.iload_n 2, 1) := by decide +kernel
theorem dX8_shared_11 : decode cX8_shared 11 = .ok (.invokestatic 119, 3) := by decide +kernel
theorem dX8_shared_14 : decode cX8_shared 14 = .ok (.ifCond .eq 11, 3) := by decide +kernel
theorem dX8_shared_17 : decode cX8_shared 17 = .ok (.aload_n 0, 1) := by decide +kernel
theorem dX8_shared_18 : decode cX8_shared 18 = .ok (.iload_n 1, 1) := by decide +kernel
theorem dX8_shared_19 : decode cX8_shared 19 = .ok (.invokevirtual 257, 3) := by decide +kernel
theorem dX8_shared_22 : decode cX8_shared 22 = .ok (.ifCond .ne 5, 3) := by decide +kernel
theorem dX8_shared_25 : decode cX8_shared 25 = .ok (.iconst (-1), 1) := by decide +kernel
theorem dX8_shared_26 : decode cX8_shared 26 = .ok (.ireturn, 1) := by decide +kernel
theorem dX8_shared_27 : decode cX8_shared 27 = .ok (.iconst 0, 1) := by decide +kernel
theorem dX8_shared_28 : decode cX8_shared 28 = .ok (.istore_n 3, 1) := by decide +kernel
theorem dX8_shared_29 : decode cX8_shared 29 = .ok (.iconst 0, 1) := by decide +kernel
theorem dX8_shared_30 : decode cX8_shared 30 = .ok (.istore 4, 2) := by decide +kernel
theorem dX8_shared_32 : decode cX8_shared 32 = .ok (.iload 4, 2) := by decide +kernel
theorem dX8_shared_34 : decode cX8_shared 34 = .ok (.bipush 6, 2) := by decide +kernel
theorem dX8_shared_36 : decode cX8_shared 36 = .ok (.if_icmp .ge 101, 3) := by decide +kernel
theorem dX8_shared_39 : decode cX8_shared 39 = .ok (.aload_n 0, 1) := by decide +kernel
theorem dX8_shared_40 : decode cX8_shared 40 = .ok (.getfield 55, 3) := by decide +kernel
theorem dX8_shared_43 : decode cX8_shared 43 = .ok (.iload 4, 2) := by decide +kernel
theorem dX8_shared_45 : decode cX8_shared 45 = .ok (.iaload, 1) := by decide +kernel
theorem dX8_shared_46 : decode cX8_shared 46 = .ok (.ifCond .ne 7, 3) := by decide +kernel
theorem dX8_shared_49 : decode cX8_shared 49 = .ok (.iconst 1, 1) := by decide +kernel
theorem dX8_shared_50 : decode cX8_shared 50 = .ok (.goto 12, 3) := by decide +kernel
theorem dX8_shared_53 : decode cX8_shared 53 = .ok (.iconst 4, 1) := by decide +kernel
theorem dX8_shared_54 : decode cX8_shared 54 = .ok (.aload_n 0, 1) := by decide +kernel
theorem dX8_shared_55 : decode cX8_shared 55 = .ok (.getfield 16, 3) := by decide +kernel
theorem dX8_shared_58 : decode cX8_shared 58 = .ok (.iload 4, 2) := by decide +kernel
theorem dX8_shared_60 : decode cX8_shared 60 = .ok (.iaload, 1) := by decide +kernel
theorem dX8_shared_61 : decode cX8_shared 61 = .ok (.idiv, 1) := by decide +kernel
theorem dX8_shared_62 : decode cX8_shared 62 = .ok (.istore 5, 2) := by decide +kernel
theorem dX8_shared_64 : decode cX8_shared 64 = .ok (.aload_n 0, 1) := by decide +kernel
theorem dX8_shared_65 : decode cX8_shared 65 = .ok (.getfield 55, 3) := by decide +kernel
theorem dX8_shared_68 : decode cX8_shared 68 = .ok (.iload 4, 2) := by decide +kernel
theorem dX8_shared_70 : decode cX8_shared 70 = .ok (.iaload, 1) := by decide +kernel
theorem dX8_shared_71 : decode cX8_shared 71 = .ok (.iload 5, 2) := by decide +kernel
theorem dX8_shared_73 : decode cX8_shared 73 = .ok (.iadd, 1) := by decide +kernel
theorem dX8_shared_74 : decode cX8_shared 74 = .ok (.iconst 1, 1) := by decide +kernel
theorem dX8_shared_75 : decode cX8_shared 75 = .ok (.isub, 1) := by decide +kernel
theorem dX8_shared_76 : decode cX8_shared 76 = .ok (.iload 5, 2) := by decide +kernel
theorem dX8_shared_78 : decode cX8_shared 78 = .ok (.idiv, 1) := by decide +kernel
theorem dX8_shared_79 : decode cX8_shared 79 = .ok (.istore 6, 2) := by decide +kernel
theorem dX8_shared_81 : decode cX8_shared 81 = .ok (.iload_n 3, 1) := by decide +kernel
theorem dX8_shared_82 : decode cX8_shared 82 = .ok (.aload_n 0, 1) := by decide +kernel
theorem dX8_shared_83 : decode cX8_shared 83 = .ok (.getfield 55, 3) := by decide +kernel
theorem dX8_shared_86 : decode cX8_shared 86 = .ok (.iload 4, 2) := by decide +kernel
theorem dX8_shared_88 : decode cX8_shared 88 = .ok (.iaload, 1) := by decide +kernel
theorem dX8_shared_89 : decode cX8_shared 89 = .ok (.ifCond .ne 7, 3) := by decide +kernel
theorem dX8_shared_92 : decode cX8_shared 92 = .ok (.iconst 0, 1) := by decide +kernel
theorem dX8_shared_93 : decode cX8_shared 93 = .ok (.goto 36, 3) := by decide +kernel
theorem dX8_shared_96 : decode cX8_shared 96 = .ok (.aload_n 0, 1) := by decide +kernel
theorem dX8_shared_97 : decode cX8_shared 97 = .ok (.getfield 55, 3) := by decide +kernel
theorem dX8_shared_100 : decode cX8_shared 100 = .ok (.iload 4, 2) := by decide +kernel
theorem dX8_shared_102 : decode cX8_shared 102 = .ok (.iaload, 1) := by decide +kernel
theorem dX8_shared_103 : decode cX8_shared 103 = .ok (.aload_n 0, 1) := by decide +kernel
theorem dX8_shared_104 : decode cX8_shared 104 = .ok (.iload 4, 2) := by decide +kernel
theorem dX8_shared_106 : decode cX8_shared 106 = .ok (.aload_n 0, 1) := by decide +kernel
theorem dX8_shared_107 : decode cX8_shared 107 = .ok (.getfield 7, 3) := by decide +kernel
theorem dX8_shared_110 : decode cX8_shared 110 = .ok (.iload_n 2, 1) := by decide +kernel
theorem dX8_shared_111 : decode cX8_shared 111 = .ok (.iaload, 1) := by decide +kernel
theorem dX8_shared_112 : decode cX8_shared 112 = .ok (.bipush 8, 2) := by decide +kernel
theorem dX8_shared_114 : decode cX8_shared 114 = .ok (.invokevirtual 159, 3) := by decide +kernel
theorem dX8_shared_117 : decode cX8_shared 117 = .ok (.imul, 1) := by decide +kernel
theorem dX8_shared_118 : decode cX8_shared 118 = .ok (.iload 6, 2) := by decide +kernel
theorem dX8_shared_120 : decode cX8_shared 120 = .ok (.aload_n 0, 1) := by decide +kernel
theorem dX8_shared_121 : decode cX8_shared 121 = .ok (.getfield 19, 3) := by decide +kernel
theorem dX8_shared_124 : decode cX8_shared 124 = .ok (.iload 4, 2) := by decide +kernel
theorem dX8_shared_126 : decode cX8_shared 126 = .ok (.iaload, 1) := by decide +kernel
theorem dX8_shared_127 : decode cX8_shared 127 = .ok (.imul, 1) := by decide +kernel
theorem dX8_shared_128 : decode cX8_shared 128 = .ok (.iadd, 1) := by decide +kernel
theorem dX8_shared_129 : decode cX8_shared 129 = .ok (.iadd, 1) := by decide +kernel
theorem dX8_shared_130 : decode cX8_shared 130 = .ok (.istore_n 3, 1) := by decide +kernel
theorem dX8_shared_131 : decode cX8_shared 131 = .ok (.iinc 4 1, 3) := by decide +kernel
theorem dX8_shared_134 : decode cX8_shared 134 = .ok (.goto (-102), 3) := by decide +kernel
theorem dX8_shared_137 : decode cX8_shared 137 = .ok (.iload_n 3, 1) := by decide +kernel
theorem dX8_shared_138 : decode cX8_shared 138 = .ok (.ireturn, 1) := by decide +kernel
theorem dX8_isHot_0 : decode cX8_isHot 0 = .ok (.aload_n 0, 1) := by decide +kernel
theorem dX8_isHot_1 : decode cX8_isHot 1 = .ok (.getfield 22, 3) := by decide +kernel
theorem dX8_isHot_4 : decode cX8_isHot 4 = .ok (.iload_n 1, 1) := by decide +kernel
theorem dX8_isHot_5 : decode cX8_isHot 5 = .ok (.iaload, 1) := by decide +kernel
theorem dX8_isHot_6 : decode cX8_isHot 6 = .ok (.aload_n 0, 1) := by decide +kernel
theorem dX8_isHot_7 : decode cX8_isHot 7 = .ok (.invokevirtual 166, 3) := by decide +kernel
theorem dX8_isHot_10 : decode cX8_isHot 10 = .ok (.if_icmp .gt 7, 3) := by decide +kernel
theorem dX8_isHot_13 : decode cX8_isHot 13 = .ok (.iconst 1, 1) := by decide +kernel
theorem dX8_isHot_14 : decode cX8_isHot 14 = .ok (.goto 4, 3) := by decide +kernel
theorem dX8_isHot_17 : decode cX8_isHot 17 = .ok (.iconst 0, 1) := by decide +kernel
theorem dX8_isHot_18 : decode cX8_isHot 18 = .ok (.ireturn, 1) := by decide +kernel
theorem dX8_leastWind_0 : decode cX8_leastWind 0 = .ok (.iconst 4, 1) := by decide +kernel
theorem dX8_leastWind_1 : decode cX8_leastWind 1 = .ok (.istore_n 2, 1) := by decide +kernel
theorem dX8_leastWind_2 : decode cX8_leastWind 2 = .ok (.aload_n 0, 1) := by decide +kernel
theorem dX8_leastWind_3 : decode cX8_leastWind 3 = .ok (.getfield 101, 3) := by decide +kernel
theorem dX8_leastWind_6 : decode cX8_leastWind 6 = .ok (.istore_n 3, 1) := by decide +kernel
theorem dX8_leastWind_7 : decode cX8_leastWind 7 = .ok (.iload_n 3, 1) := by decide +kernel
theorem dX8_leastWind_8 : decode cX8_leastWind 8 = .ok (.iload_n 1, 1) := by decide +kernel
theorem dX8_leastWind_9 : decode cX8_leastWind 9 = .ok (.if_icmp .gt 30, 3) := by decide +kernel
theorem dX8_leastWind_12 : decode cX8_leastWind 12 = .ok (.aload_n 0, 1) := by decide +kernel
theorem dX8_leastWind_13 : decode cX8_leastWind 13 = .ok (.getfield 7, 3) := by decide +kernel
theorem dX8_leastWind_16 : decode cX8_leastWind 16 = .ok (.iload_n 3, 1) := by decide +kernel
theorem dX8_leastWind_17 : decode cX8_leastWind 17 = .ok (.iaload, 1) := by decide +kernel
theorem dX8_leastWind_18 : decode cX8_leastWind 18 = .ok (.iload_n 2, 1) := by decide +kernel
theorem dX8_leastWind_19 : decode cX8_leastWind 19 = .ok (.if_icmp .ge 12, 3) := by decide +kernel
theorem dX8_leastWind_22 : decode cX8_leastWind 22 = .ok (.aload_n 0, 1) := by decide +kernel
theorem dX8_leastWind_23 : decode cX8_leastWind 23 = .ok (.getfield 7, 3) := by decide +kernel
theorem dX8_leastWind_26 : decode cX8_leastWind 26 = .ok (.iload_n 3, 1) := by decide +kernel
theorem dX8_leastWind_27 : decode cX8_leastWind 27 = .ok (.iaload, 1) := by decide +kernel
theorem dX8_leastWind_28 : decode cX8_leastWind 28 = .ok (.goto 4, 3) := by decide +kernel
theorem dX8_leastWind_31 : decode cX8_leastWind 31 = .ok (.iload_n 2, 1) := by decide +kernel
theorem dX8_leastWind_32 : decode cX8_leastWind 32 = .ok (.istore_n 2, 1) := by decide +kernel
theorem dX8_leastWind_33 : decode cX8_leastWind 33 = .ok (.iinc 3 1, 3) := by decide +kernel
theorem dX8_leastWind_36 : decode cX8_leastWind 36 = .ok (.goto (-29), 3) := by decide +kernel
theorem dX8_leastWind_39 : decode cX8_leastWind 39 = .ok (.iload_n 2, 1) := by decide +kernel
theorem dX8_leastWind_40 : decode cX8_leastWind 40 = .ok (.ireturn, 1) := by decide +kernel
theorem dX8_isDayOn_0 : decode cX8_isDayOn 0 = .ok (.iload_n 1, 1) := by decide +kernel
theorem dX8_isDayOn_1 : decode cX8_isDayOn 1 = .ok (.i2l, 1) := by decide +kernel
theorem dX8_isDayOn_2 : decode cX8_isDayOn 2 = .ok (.aload_n 0, 1) := by decide +kernel
theorem dX8_isDayOn_3 : decode cX8_isDayOn 3 = .ok (.getfield 101, 3) := by decide +kernel
theorem dX8_isDayOn_6 : decode cX8_isDayOn 6 = .ok (.i2l, 1) := by decide +kernel
theorem dX8_isDayOn_7 : decode cX8_isDayOn 7 = .ok (.ldc2_w 81, 3) := by decide +kernel
theorem dX8_isDayOn_10 : decode cX8_isDayOn 10 = .ok (.invokestatic 83, 3) := by decide +kernel
theorem dX8_isDayOn_13 : decode cX8_isDayOn 13 = .ok (.ireturn, 1) := by decide +kernel
theorem dX8_nextTaken_0 : decode cX8_nextTaken 0 = .ok (.iconst 0, 1) := by decide +kernel
theorem dX8_nextTaken_1 : decode cX8_nextTaken 1 = .ok (.istore_n 1, 1) := by decide +kernel
theorem dX8_nextTaken_2 : decode cX8_nextTaken 2 = .ok (.iload_n 1, 1) := by decide +kernel
theorem dX8_nextTaken_3 : decode cX8_nextTaken 3 = .ok (.bipush 6, 2) := by decide +kernel
theorem dX8_nextTaken_5 : decode cX8_nextTaken 5 = .ok (.if_icmp .ge 31, 3) := by decide +kernel
theorem dX8_nextTaken_8 : decode cX8_nextTaken 8 = .ok (.aload_n 0, 1) := by decide +kernel
theorem dX8_nextTaken_9 : decode cX8_nextTaken 9 = .ok (.getfield 58, 3) := by decide +kernel
theorem dX8_nextTaken_12 : decode cX8_nextTaken 12 = .ok (.iload_n 1, 1) := by decide +kernel
theorem dX8_nextTaken_13 : decode cX8_nextTaken 13 = .ok (.iaload, 1) := by decide +kernel
theorem dX8_nextTaken_14 : decode cX8_nextTaken 14 = .ok (.aload_n 0, 1) := by decide +kernel
theorem dX8_nextTaken_15 : decode cX8_nextTaken 15 = .ok (.getfield 55, 3) := by decide +kernel
theorem dX8_nextTaken_18 : decode cX8_nextTaken 18 = .ok (.iload_n 1, 1) := by decide +kernel
theorem dX8_nextTaken_19 : decode cX8_nextTaken 19 = .ok (.iaload, 1) := by decide +kernel
theorem dX8_nextTaken_20 : decode cX8_nextTaken 20 = .ok (.if_icmp .ne 16, 3) := by decide +kernel
theorem dX8_nextTaken_23 : decode cX8_nextTaken 23 = .ok (.aload_n 0, 1) := by decide +kernel
theorem dX8_nextTaken_24 : decode cX8_nextTaken 24 = .ok (.getfield 58, 3) := by decide +kernel
theorem dX8_nextTaken_27 : decode cX8_nextTaken 27 = .ok (.iload_n 1, 1) := by decide +kernel
theorem dX8_nextTaken_28 : decode cX8_nextTaken 28 = .ok (.iconst 0, 1) := by decide +kernel
theorem dX8_nextTaken_29 : decode cX8_nextTaken 29 = .ok (.iastore, 1) := by decide +kernel
theorem dX8_nextTaken_30 : decode cX8_nextTaken 30 = .ok (.iinc 1 1, 3) := by decide +kernel
theorem dX8_nextTaken_33 : decode cX8_nextTaken 33 = .ok (.goto (-31), 3) := by decide +kernel
theorem dX8_nextTaken_36 : decode cX8_nextTaken 36 = .ok (.iload_n 1, 1) := by decide +kernel
theorem dX8_nextTaken_37 : decode cX8_nextTaken 37 = .ok (.bipush 6, 2) := by decide +kernel
theorem dX8_nextTaken_39 : decode cX8_nextTaken 39 = .ok (.if_icmp .ge 13, 3) := by decide +kernel
theorem dX8_nextTaken_42 : decode cX8_nextTaken 42 = .ok (.aload_n 0, 1) := by decide +kernel
theorem dX8_nextTaken_43 : decode cX8_nextTaken 43 = .ok (.getfield 58, 3) := by decide +kernel
theorem dX8_nextTaken_46 : decode cX8_nextTaken 46 = .ok (.iload_n 1, 1) := by decide +kernel
theorem dX8_nextTaken_47 : decode cX8_nextTaken 47 = .ok (.dup2, 1) := by decide +kernel
theorem dX8_nextTaken_48 : decode cX8_nextTaken 48 = .ok (.iaload, 1) := by decide +kernel
theorem dX8_nextTaken_49 : decode cX8_nextTaken 49 = .ok (.iconst 1, 1) := by decide +kernel
theorem dX8_nextTaken_50 : decode cX8_nextTaken 50 = .ok (.iadd, 1) := by decide +kernel
theorem dX8_nextTaken_51 : decode cX8_nextTaken 51 = .ok (.iastore, 1) := by decide +kernel
theorem dX8_nextTaken_52 : decode cX8_nextTaken 52 = .ok (.iload_n 1, 1) := by decide +kernel
theorem dX8_nextTaken_53 : decode cX8_nextTaken 53 = .ok (.bipush 6, 2) := by decide +kernel
theorem dX8_nextTaken_55 : decode cX8_nextTaken 55 = .ok (.if_icmp .ge 7, 3) := by decide +kernel
theorem dX8_nextTaken_58 : decode cX8_nextTaken 58 = .ok (.iconst 1, 1) := by decide +kernel
theorem dX8_nextTaken_59 : decode cX8_nextTaken 59 = .ok (.goto 4, 3) := by decide +kernel
theorem dX8_nextTaken_62 : decode cX8_nextTaken 62 = .ok (.iconst 0, 1) := by decide +kernel
theorem dX8_nextTaken_63 : decode cX8_nextTaken 63 = .ok (.ireturn, 1) := by decide +kernel
theorem dX8_most_0 : decode cX8_most 0 = .ok (.iload_n 1, 1) := by decide +kernel
theorem dX8_most_1 : decode cX8_most 1 = .ok (.invokestatic 254, 3) := by decide +kernel
theorem dX8_most_4 : decode cX8_most 4 = .ok (.ifCond .eq 13, 3) := by decide +kernel
theorem dX8_most_7 : decode cX8_most 7 = .ok (.iload_n 3, 1) := by decide +kernel
theorem dX8_most_8 : decode cX8_most 8 = .ok (.i2l, 1) := by decide +kernel
theorem dX8_most_9 : decode cX8_most 9 = .ok (.lconst 0, 1) := by decide +kernel
theorem dX8_most_10 : decode cX8_most 10 = .ok (.lconst 1, 1) := by decide +kernel
theorem dX8_most_11 : decode cX8_most 11 = .ok (.invokestatic 83, 3) := by decide +kernel
theorem dX8_most_14 : decode cX8_most 14 = .ok (.ifCond .ne 6, 3) := by decide +kernel
theorem dX8_most_17 : decode cX8_most 17 = .ok (.bipush (-2), 2) := by decide +kernel
theorem dX8_most_19 : decode cX8_most 19 = .ok (.ireturn, 1) := by decide +kernel
theorem dX8_most_20 : decode cX8_most 20 = .ok (.aload_n 0, 1) := by decide +kernel
theorem dX8_most_21 : decode cX8_most 21 = .ok (.iload_n 2, 1) := by decide +kernel
theorem dX8_most_22 : decode cX8_most 22 = .ok (.invokevirtual 260, 3) := by decide +kernel
theorem dX8_most_25 : decode cX8_most 25 = .ok (.ifCond .eq 11, 3) := by decide +kernel
theorem dX8_most_28 : decode cX8_most 28 = .ok (.aload_n 0, 1) := by decide +kernel
theorem dX8_most_29 : decode cX8_most 29 = .ok (.iload_n 1, 1) := by decide +kernel
theorem dX8_most_30 : decode cX8_most 30 = .ok (.invokevirtual 257, 3) := by decide +kernel
theorem dX8_most_33 : decode cX8_most 33 = .ok (.ifCond .ne 5, 3) := by decide +kernel
theorem dX8_most_36 : decode cX8_most 36 = .ok (.iconst (-1), 1) := by decide +kernel
theorem dX8_most_37 : decode cX8_most 37 = .ok (.ireturn, 1) := by decide +kernel
theorem dX8_most_38 : decode cX8_most 38 = .ok (.aload_n 0, 1) := by decide +kernel
theorem dX8_most_39 : decode cX8_most 39 = .ok (.getfield 249, 3) := by decide +kernel
theorem dX8_most_42 : decode cX8_most 42 = .ok (.bipush 12, 2) := by decide +kernel
theorem dX8_most_44 : decode cX8_most 44 = .ok (.if_icmp .le 6, 3) := by decide +kernel
theorem dX8_most_47 : decode cX8_most 47 = .ok (.bipush (-4), 2) := by decide +kernel
theorem dX8_most_49 : decode cX8_most 49 = .ok (.ireturn, 1) := by decide +kernel
theorem dX8_most_50 : decode cX8_most 50 = .ok (.aload_n 0, 1) := by decide +kernel
theorem dX8_most_51 : decode cX8_most 51 = .ok (.iload_n 2, 1) := by decide +kernel
theorem dX8_most_52 : decode cX8_most 52 = .ok (.invokevirtual 263, 3) := by decide +kernel
theorem dX8_most_55 : decode cX8_most 55 = .ok (.istore 4, 2) := by decide +kernel
theorem dX8_most_57 : decode cX8_most 57 = .ok (.iconst 0, 1) := by decide +kernel
theorem dX8_most_58 : decode cX8_most 58 = .ok (.istore 5, 2) := by decide +kernel
theorem dX8_most_60 : decode cX8_most 60 = .ok (.iload 5, 2) := by decide +kernel
theorem dX8_most_62 : decode cX8_most 62 = .ok (.bipush 6, 2) := by decide +kernel
theorem dX8_most_64 : decode cX8_most 64 = .ok (.if_icmp .ge 54, 3) := by decide +kernel
theorem dX8_most_67 : decode cX8_most 67 = .ok (.aload_n 0, 1) := by decide +kernel
theorem dX8_most_68 : decode cX8_most 68 = .ok (.getfield 55, 3) := by decide +kernel
theorem dX8_most_71 : decode cX8_most 71 = .ok (.iload 5, 2) := by decide +kernel
