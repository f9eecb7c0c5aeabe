theorem dX12_init_0 : decode cX12_init 0 = .ok (.aload_n 0, 1) := by decide +kernel
theorem dX12_init_1 : decode cX12_init 1 = .ok (.invokespecial 1, 3) := by decide +kernel
theorem dX12_init_4 : decode cX12_init 4 = .ok (.aload_n 0, 1) := by decide +kernel
theorem dX12_init_5 : decode cX12_init 5 = .ok (.new 7, 3) := by decide +kernel
theorem dX12_init_8 : decode cX12_init 8 = .ok (.dup, 1) := by decide +kernel
theorem dX12_init_9 : decode cX12_init 9 = .ok (.invokespecial 9, 3) := by decide +kernel
theorem dX12_init_12 : decode cX12_init 12 = .ok (.putfield 10, 3) := by decide +kernel
theorem dX12_init_15 : decode cX12_init 15 = .ok (.aload_n 0, 1) := by decide +kernel
theorem dX12_init_16 : decode cX12_init 16 = .ok (.new 16, 3) := by decide +kernel
theorem dX12_init_19 : decode cX12_init 19 = .ok (.dup, 1) := by decide +kernel
theorem dX12_init_20 : decode cX12_init 20 = .ok (.invokespecial 18, 3) := by decide +kernel
theorem dX12_init_23 : decode cX12_init 23 = .ok (.putfield 19, 3) := by decide +kernel
theorem dX12_init_26 : decode cX12_init 26 = .ok (.aload_n 0, 1) := by decide +kernel
theorem dX12_init_27 : decode cX12_init 27 = .ok (.new 23, 3) := by decide +kernel
theorem dX12_init_30 : decode cX12_init 30 = .ok (.dup, 1) := by decide +kernel
theorem dX12_init_31 : decode cX12_init 31 = .ok (.aload_n 0, 1) := by decide +kernel
theorem dX12_init_32 : decode cX12_init 32 = .ok (.getfield 10, 3) := by decide +kernel
theorem dX12_init_35 : decode cX12_init 35 = .ok (.aload_n 0, 1) := by decide +kernel
theorem dX12_init_36 : decode cX12_init 36 = .ok (.getfield 19, 3) := by decide +kernel
theorem dX12_init_39 : decode cX12_init 39 = .ok (.getfield 25, 3) := by decide +kernel
theorem dX12_init_42 : decode cX12_init 42 = .ok (.invokespecial 29, 3) := by decide +kernel
theorem dX12_init_45 : decode cX12_init 45 = .ok (.putfield 32, 3) := by decide +kernel
theorem dX12_init_48 : decode cX12_init 48 = .ok (.aload_n 0, 1) := by decide +kernel
theorem dX12_init_49 : decode cX12_init 49 = .ok (.new 36, 3) := by decide +kernel
theorem dX12_init_52 : decode cX12_init 52 = .ok (.dup, 1) := by decide +kernel
theorem dX12_init_53 : decode cX12_init 53 = .ok (.aload_n 0, 1) := by decide +kernel
theorem dX12_init_54 : decode cX12_init 54 = .ok (.getfield 10, 3) := by decide +kernel
theorem dX12_init_57 : decode cX12_init 57 = .ok (.aload_n 0, 1) := by decide +kernel
theorem dX12_init_58 : decode cX12_init 58 = .ok (.getfield 19, 3) := by decide +kernel
theorem dX12_init_61 : decode cX12_init 61 = .ok (.getfield 38, 3) := by decide +kernel
theorem dX12_init_64 : decode cX12_init 64 = .ok (.invokespecial 42, 3) := by decide +kernel
theorem dX12_init_67 : decode cX12_init 67 = .ok (.putfield 45, 3) := by decide +kernel
theorem dX12_init_70 : decode cX12_init 70 = .ok (.aload_n 0, 1) := by decide +kernel
theorem dX12_init_71 : decode cX12_init 71 = .ok (.new 49, 3) := by decide +kernel
theorem dX12_init_74 : decode cX12_init 74 = .ok (.dup, 1) := by decide +kernel
theorem dX12_init_75 : decode cX12_init 75 = .ok (.aload_n 0, 1) := by decide +kernel
theorem dX12_init_76 : decode cX12_init 76 = .ok (.getfield 19, 3) := by decide +kernel
theorem dX12_init_79 : decode cX12_init 79 = .ok (.invokespecial 51, 3) := by decide +kernel
theorem dX12_init_82 : decode cX12_init 82 = .ok (.putfield 54, 3) := by decide +kernel
theorem dX12_init_85 : decode cX12_init 85 = .ok (.aload_n 0, 1) := by decide +kernel
theorem dX12_init_86 : decode cX12_init 86 = .ok (.new 58, 3) := by decide +kernel
theorem dX12_init_89 : decode cX12_init 89 = .ok (.dup, 1) := by decide +kernel
theorem dX12_init_90 : decode cX12_init 90 = .ok (.invokespecial 60, 3) := by decide +kernel
theorem dX12_init_93 : decode cX12_init 93 = .ok (.putfield 61, 3) := by decide +kernel
theorem dX12_init_96 : decode cX12_init 96 = .ok (.aload_n 0, 1) := by decide +kernel
theorem dX12_init_97 : decode cX12_init 97 = .ok (.new 58, 3) := by decide +kernel
theorem dX12_init_100 : decode cX12_init 100 = .ok (.dup, 1) := by decide +kernel
theorem dX12_init_101 : decode cX12_init 101 = .ok (.invokespecial 60, 3) := by decide +kernel
theorem dX12_init_104 : decode cX12_init 104 = .ok (.putfield 65, 3) := by decide +kernel
theorem dX12_init_107 : decode cX12_init 107 = .ok (.aload_n 0, 1) := by decide +kernel
theorem dX12_init_108 : decode cX12_init 108 = .ok (.new 58, 3) := by decide +kernel
theorem dX12_init_111 : decode cX12_init 111 = .ok (.dup, 1) := by decide +kernel
theorem dX12_init_112 : decode cX12_init 112 = .ok (.invokespecial 60, 3) := by decide +kernel
theorem dX12_init_115 : decode cX12_init 115 = .ok (.putfield 68, 3) := by decide +kernel
theorem dX12_init_118 : decode cX12_init 118 = .ok (.aload_n 0, 1) := by decide +kernel
theorem dX12_init_119 : decode cX12_init 119 = .ok (.new 71, 3) := by decide +kernel
theorem dX12_init_122 : decode cX12_init 122 = .ok (.dup, 1) := by decide +kernel
theorem dX12_init_123 : decode cX12_init 123 = .ok (.invokespecial 73, 3) := by decide +kernel
theorem dX12_init_126 : decode cX12_init 126 = .ok (.putfield 74, 3) := by decide +kernel
theorem dX12_init_129 : decode cX12_init 129 = .ok (.aload_n 0, 1) := by decide +kernel
theorem dX12_init_130 : decode cX12_init 130 = .ok (.new 78, 3) := by decide +kernel
theorem dX12_init_133 : decode cX12_init 133 = .ok (.dup, 1) := by decide +kernel
theorem dX12_init_134 : decode cX12_init 134 = .ok (.invokespecial 80, 3) := by decide +kernel
theorem dX12_init_137 : decode cX12_init 137 = .ok (.putfield 81, 3) := by decide +kernel
theorem dX12_init_140 : decode cX12_init 140 = .ok (.aload_n 0, 1) := by decide +kernel
theorem dX12_init_141 : decode cX12_init 141 = .ok (.new 85, 3) := by decide +kernel
theorem dX12_init_144 : decode cX12_init 144 = .ok (.dup, 1) := by decide +kernel
theorem dX12_init_145 : decode cX12_init 145 = .ok (.invokespecial 87, 3) := by decide +kernel
theorem dX12_init_148 : decode cX12_init 148 = .ok (.putfield 88, 3) := by decide +kernel
theorem dX12_init_151 : decode cX12_init 151 = .ok (.return_, 1) := by decide +kernel
theorem dX12_singer_0 : decode cX12_singer 0 = .ok (.iload_n 1, 1) := by decide +kernel
theorem dX12_singer_1 : decode cX12_singer 1 = .ok (.invokestatic 92, 3) := by decide +kernel
theorem dX12_singer_4 : decode cX12_singer 4 = .ok (.ifCond .eq 45, 3) := by decide +kernel
theorem dX12_singer_7 : decode cX12_singer 7 = .ok (.iload_n 2, 1) := by decide +kernel
theorem dX12_singer_8 : decode cX12_singer 8 = .ok (.bipush (-20), 2) := by decide +kernel
theorem dX12_singer_10 : decode cX12_singer 10 = .ok (.bipush 20, 2) := by decide +kernel
theorem dX12_singer_12 : decode cX12_singer 12 = .ok (.invokestatic 96, 3) := by decide +kernel
theorem dX12_singer_15 : decode cX12_singer 15 = .ok (.ifCond .eq 34, 3) := by decide +kernel
theorem dX12_singer_18 : decode cX12_singer 18 = .ok (.iload_n 3, 1) := by decide +kernel
theorem dX12_singer_19 : decode cX12_singer 19 = .ok (.iconst 0, 1) := by decide +kernel
theorem dX12_singer_20 : decode cX12_singer 20 = .ok (.bipush 15, 2) := by decide +kernel
theorem dX12_singer_22 : decode cX12_singer 22 = .ok (.invokestatic 96, 3) := by decide +kernel
theorem dX12_singer_25 : decode cX12_singer 25 = .ok (.ifCond .eq 24, 3) := by decide +kernel
theorem dX12_singer_28 : decode cX12_singer 28 = .ok (.iload 4, 2) := by decide +kernel
theorem dX12_singer_30 : decode cX12_singer 30 = .ok (.iconst 0, 1) := by decide +kernel
theorem dX12_singer_31 : decode cX12_singer 31 = .ok (.iconst 3, 1) := by decide +kernel
theorem dX12_singer_32 : decode cX12_singer 32 = .ok (.invokestatic 96, 3) := by decide +kernel
theorem dX12_singer_35 : decode cX12_singer 35 = .ok (.ifCond .eq 14, 3) := by decide +kernel
theorem dX12_singer_38 : decode cX12_singer 38 = .ok (.iload 5, 2) := by decide +kernel
theorem dX12_singer_40 : decode cX12_singer 40 = .ok (.iconst 1, 1) := by decide +kernel
theorem dX12_singer_41 : decode cX12_singer 41 = .ok (.bipush 20, 2) := by decide +kernel
theorem dX12_singer_43 : decode cX12_singer 43 = .ok (.invokestatic 96, 3) := by decide +kernel
theorem dX12_singer_46 : decode cX12_singer 46 = .ok (.ifCond .ne 5, 3) := by decide +kernel
theorem dX12_singer_49 : decode cX12_singer 49 = .ok (.iconst 0, 1) := by decide +kernel
theorem dX12_singer_50 : decode cX12_singer 50 = .ok (.ireturn, 1) := by decide +kernel
theorem dX12_singer_51 : decode cX12_singer 51 = .ok (.aload_n 0, 1) := by decide +kernel
theorem dX12_singer_52 : decode cX12_singer 52 = .ok (.getfield 61, 3) := by decide +kernel
theorem dX12_singer_55 : decode cX12_singer 55 = .ok (.getfield 100, 3) := by decide +kernel
theorem dX12_singer_58 : decode cX12_singer 58 = .ok (.iload_n 1, 1) := by decide +kernel
theorem dX12_singer_59 : decode cX12_singer 59 = .ok (.aaload, 1) := by decide +kernel
theorem dX12_singer_60 : decode cX12_singer 60 = .ok (.astore 6, 2) := by decide +kernel
theorem dX12_singer_62 : decode cX12_singer 62 = .ok (.aload 6, 2) := by decide +kernel
theorem dX12_singer_64 : decode cX12_singer 64 = .ok (.iconst 1, 1) := by decide +kernel
theorem dX12_singer_65 : decode cX12_singer 65 = .ok (.putfield 104, 3) := by decide +kernel
theorem dX12_singer_68 : decode cX12_singer 68 = .ok (.aload 6, 2) := by decide +kernel
theorem dX12_singer_70 : decode cX12_singer 70 = .ok (.iload_n 2, 1) := by decide +kernel
theorem dX12_singer_71 : decode cX12_singer 71 = .ok (.putfield 110, 3) := by decide +kernel
theorem dX12_singer_74 : decode cX12_singer 74 = .ok (.aload 6, 2) := by decide +kernel
theorem dX12_singer_76 : decode cX12_singer 76 = .ok (.iload_n 3, 1) := by decide +kernel
theorem dX12_singer_77 : decode cX12_singer 77 = .ok (.putfield 114, 3) := by decide +kernel
theorem dX12_singer_80 : decode cX12_singer 80 = .ok (.aload 6, 2) := by decide +kernel
theorem dX12_singer_82 : decode cX12_singer 82 = .ok (.iload 4, 2) := by decide +kernel
theorem dX12_singer_84 : decode cX12_singer 84 = .ok (.putfield 117, 3) := by decide +kernel
theorem dX12_singer_87 : decode cX12_singer 87 = .ok (.aload 6, 2) := by decide +kernel
theorem dX12_singer_89 : decode cX12_singer 89 = .ok (.iload 5, 2) := by decide +kernel
theorem dX12_singer_91 : decode cX12_singer 91 = .ok (.putfield 120, 3) := by decide +kernel
theorem dX12_singer_94 : decode cX12_singer 94 = .ok (.aload 6, 2) := by decide +kernel
theorem dX12_singer_96 : decode cX12_singer 96 = .ok (.invokevirtual 123, 3) := by decide +kernel
theorem dX12_singer_99 : decode cX12_singer 99 = .ok (.iconst 1, 1) := by decide +kernel
theorem dX12_singer_100 : decode cX12_singer 100 = .ok (.ireturn, 1) := by decide +kernel
theorem dX12_ears_0 : decode cX12_ears 0 = .ok (.iload_n 1, 1) := by decide +kernel
theorem dX12_ears_1 : decode cX12_ears 1 = .ok (.iconst 0, 1) := by decide +kernel
theorem dX12_ears_2 : decode cX12_ears 2 = .ok (.bipush 15, 2) := by decide +kernel
theorem dX12_ears_4 : decode cX12_ears 4 = .ok (.invokestatic 96, 3) := by decide +kernel
theorem dX12_ears_7 : decode cX12_ears 7 = .ok (.ifCond .ne 5, 3) := by decide +kernel
theorem dX12_ears_10 : decode cX12_ears 10 = .ok (.iconst 0, 1) := by decide +kernel
theorem dX12_ears_11 : decode cX12_ears 11 = .ok (.ireturn, 1) := by decide +kernel
theorem dX12_ears_12 : decode cX12_ears 12 = .ok (.aload_n 0, 1) := by decide +kernel
theorem dX12_ears_13 : decode cX12_ears 13 = .ok (.getfield 19, 3) := by decide +kernel
theorem dX12_ears_16 : decode cX12_ears 16 = .ok (.iload_n 1, 1) := by decide +kernel
theorem dX12_ears_17 : decode cX12_ears 17 = .ok (.putfield 126, 3) := by decide +kernel
theorem dX12_ears_20 : decode cX12_ears 20 = .ok (.iconst 1, 1) := by decide +kernel
theorem dX12_ears_21 : decode cX12_ears 21 = .ok (.ireturn, 1) := by decide +kernel
theorem dX12_tempo_0 : decode cX12_tempo 0 = .ok (.iload_n 1, 1) := by decide +kernel
theorem dX12_tempo_1 : decode cX12_tempo 1 = .ok (.bipush 60, 2) := by decide +kernel
theorem dX12_tempo_3 : decode cX12_tempo 3 = .ok (.sipush 600, 3) := by decide +kernel
theorem dX12_tempo_6 : decode cX12_tempo 6 = .ok (.invokestatic 96, 3) := by decide +kernel
theorem dX12_tempo_9 : decode cX12_tempo 9 = .ok (.ifCond .ne 5, 3) := by decide +kernel
theorem dX12_tempo_12 : decode cX12_tempo 12 = .ok (.iconst 0, 1) := by decide +kernel
theorem dX12_tempo_13 : decode cX12_tempo 13 = .ok (.ireturn, 1) := by decide +kernel
theorem dX12_tempo_14 : decode cX12_tempo 14 = .ok (.aload_n 0, 1) := by decide +kernel
theorem dX12_tempo_15 : decode cX12_tempo 15 = .ok (.getfield 19, 3) := by decide +kernel
theorem dX12_tempo_18 : decode cX12_tempo 18 = .ok (.iload_n 1, 1) := by decide +kernel
theorem dX12_tempo_19 : decode cX12_tempo 19 = .ok (.putfield 129, 3) := by decide +kernel
theorem dX12_tempo_22 : decode cX12_tempo 22 = .ok (.iconst 1, 1) := by decide +kernel
theorem dX12_tempo_23 : decode cX12_tempo 23 = .ok (.ireturn, 1) := by decide +kernel
theorem dX12_anew_0 : decode cX12_anew 0 = .ok (.iconst 0, 1) := by decide +kernel
theorem dX12_anew_1 : decode cX12_anew 1 = .ok (.istore_n 1, 1) := by decide +kernel
theorem dX12_anew_2 : decode cX12_anew 2 = .ok (.iload_n 1, 1) := by decide +kernel
theorem dX12_anew_3 : decode cX12_anew 3 = .ok (.bipush 8, 2) := by decide +kernel
theorem dX12_anew_5 : decode cX12_anew 5 = .ok (.if_icmp .ge 21, 3) := by decide +kernel
theorem dX12_anew_8 : decode cX12_anew 8 = .ok (.aload_n 0, 1) := by decide +kernel
theorem dX12_anew_9 : decode cX12_anew 9 = .ok (.getfield 61, 3) := by decide +kernel
theorem dX12_anew_12 : decode cX12_anew 12 = .ok (.getfield 100, 3) := by decide +kernel
theorem dX12_anew_15 : decode cX12_anew 15 = .ok (.iload_n 1, 1) := by decide +kernel
theorem dX12_anew_16 : decode cX12_anew 16 = .ok (.aaload, 1) := by decide +kernel
theorem dX12_anew_17 : decode cX12_anew 17 = .ok (.invokevirtual 123, 3) := by decide +kernel
theorem dX12_anew_20 : decode cX12_anew 20 = .ok (.iinc 1 1, 3) := by decide +kernel
theorem dX12_anew_23 : decode cX12_anew 23 = .ok (.goto (-21), 3) := by decide +kernel
theorem dX12_anew_26 : decode cX12_anew 26 = .ok (.aload_n 0, 1) := by decide +kernel
theorem dX12_anew_27 : decode cX12_anew 27 = .ok (.getfield 61, 3) := by decide +kernel
theorem dX12_anew_30 : decode cX12_anew 30 = .ok (.invokevirtual 132, 3) := by decide +kernel
theorem dX12_anew_33 : decode cX12_anew 33 = .ok (.invokestatic 136, 3) := by decide +kernel
theorem dX12_anew_36 : decode cX12_anew 36 = .ok (.ireturn, 1) := by decide +kernel
theorem dX12_feed_0 : decode cX12_feed 0 = .ok (.aload_n 0, 1) := by decide +kernel
theorem dX12_feed_1 : decode cX12_feed 1 = .ok (.getfield 10, 3) := by decide +kernel
theorem dX12_feed_4 : decode cX12_feed 4 = .ok (.bipush 20, 2) := by decide +kernel
theorem dX12_feed_6 : decode cX12_feed 6 = .ok (.invokevirtual 142, 3) := by decide +kernel
theorem dX12_feed_9 : decode cX12_feed 9 = .ok (.ifCond .ne 5, 3) := by decide +kernel
theorem dX12_feed_12 : decode cX12_feed 12 = .ok (.iconst (-1), 1) := by decide +kernel
theorem dX12_feed_13 : decode cX12_feed 13 = .ok (.ireturn, 1) := by decide +kernel
theorem dX12_feed_14 : decode cX12_feed 14 = .ok (.aload_n 0, 1) := by decide +kernel
theorem dX12_feed_15 : decode cX12_feed 15 = .ok (.getfield 10, 3) := by decide +kernel
theorem dX12_feed_18 : decode cX12_feed 18 = .ok (.iload_n 1, 1) := by decide +kernel
theorem dX12_feed_19 : decode cX12_feed 19 = .ok (.invokevirtual 145, 3) := by decide +kernel
theorem dX12_feed_22 : decode cX12_feed 22 = .ok (.aload_n 0, 1) := by decide +kernel
theorem dX12_feed_23 : decode cX12_feed 23 = .ok (.getfield 10, 3) := by decide +kernel
theorem dX12_feed_26 : decode cX12_feed 26 = .ok (.iload_n 2, 1) := by decide +kernel
theorem dX12_feed_27 : decode cX12_feed 27 = .ok (.invokevirtual 145, 3) := by decide +kernel
theorem dX12_feed_30 : decode cX12_feed 30 = .ok (.aload_n 0, 1) := by decide +kernel
theorem dX12_feed_31 : decode cX12_feed 31 = .ok (.getfield 10, 3) := by decide +kernel
theorem dX12_feed_34 : decode cX12_feed 34 = .ok (.iload_n 3, 1) := by decide +kernel
theorem dX12_feed_35 : decode cX12_feed 35 = .ok (.invokevirtual 145, 3) := by decide +kernel
theorem dX12_feed_38 : decode cX12_feed 38 = .ok (.aload_n 0, 1) := by decide +kernel
theorem dX12_feed_39 : decode cX12_feed 39 = .ok (.getfield 10, 3) := by decide +kernel
theorem dX12_feed_42 : decode cX12_feed 42 = .ok (.iload 4, 2) := by decide +kernel
theorem dX12_feed_44 : decode cX12_feed 44 = .ok (.invokevirtual 145, 3) := by decide +kernel
theorem dX12_feed_47 : decode cX12_feed 47 = .ok (.aload_n 0, 1) := by decide +kernel
theorem dX12_feed_48 : decode cX12_feed 48 = .ok (.getfield 10, 3) := by decide +kernel
theorem dX12_feed_51 : decode cX12_feed 51 = .ok (.iload 5, 2) := by decide +kernel
theorem dX12_feed_53 : decode cX12_feed 53 = .ok (.invokevirtual 145, 3) := by decide +kernel
theorem dX12_feed_56 : decode cX12_feed 56 = .ok (.aload_n 0, 1) := by decide +kernel
theorem dX12_feed_57 : decode cX12_feed 57 = .ok (.getfield 10, 3) := by decide +kernel
theorem dX12_feed_60 : decode cX12_feed 60 = .ok (.invokevirtual 149, 3) := by decide +kernel
theorem dX12_feed_63 : decode cX12_feed 63 = .ok (.ireturn, 1) := by decide +kernel
theorem dX12_law_0 : decode cX12_law 0 = .ok (.iload_n 1, 1) := by decide +kernel
theorem dX12_law_1 : decode cX12_law 1 = .ok (.iconst 1, 1) := by decide +kernel
theorem dX12_law_2 : decode cX12_law 2 = .ok (.sipush 240, 3) := by decide +kernel
theorem dX12_law_5 : decode cX12_law 5 = .ok (.invokestatic 96, 3) := by decide +kernel
theorem dX12_law_8 : decode cX12_law 8 = .ok (.ifCond .eq 14, 3) := by decide +kernel
theorem dX12_law_11 : decode cX12_law 11 = .ok (.iload_n 1, 1) := by decide +kernel
theorem dX12_law_12 : decode cX12_law 12 = .ok (.aload_n 0, 1) := by decide +kernel
theorem dX12_law_13 : decode cX12_law 13 = .ok (.getfield 10, 3) := by decide +kernel
theorem dX12_law_16 : decode cX12_law 16 = .ok (.invokevirtual 149, 3) := by decide +kernel
theorem dX12_law_19 : decode cX12_law 19 = .ok (.if_icmp .le 5, 3) := by decide +kernel
theorem dX12_law_22 : decode cX12_law 22 = .ok (.iconst (-1), 1) := by decide +kernel
theorem dX12_law_23 : decode cX12_law 23 = .ok (.ireturn, 1) := by decide +kernel
theorem dX12_law_24 : decode cX12_law 24 = .ok (.aload_n 0, 1) := by decide +kernel
theorem dX12_law_25 : decode cX12_law 25 = .ok (.getfield 45, 3) := by decide +kernel
theorem dX12_law_28 : decode cX12_law 28 = .ok (.iload_n 1, 1) := by decide +kernel
theorem dX12_law_29 : decode cX12_law 29 = .ok (.aload_n 0, 1) := by decide +kernel
theorem dX12_law_30 : decode cX12_law 30 = .ok (.getfield 19, 3) := by decide +kernel
theorem dX12_law_33 : decode cX12_law 33 = .ok (.getfield 38, 3) := by decide +kernel
theorem dX12_law_36 : decode cX12_law 36 = .ok (.invokevirtual 154, 3) := by decide +kernel
theorem dX12_law_39 : decode cX12_law 39 = .ok (.istore_n 2, 1) := by decide +kernel
theorem dX12_law_40 : decode cX12_law 40 = .ok (.aload_n 0, 1) := by decide +kernel
theorem dX12_law_41 : decode cX12_law 41 = .ok (.getfield 10, 3) := by decide +kernel
theorem dX12_law_44 : decode cX12_law 44 = .ok (.invokevirtual 158, 3) := by decide +kernel
theorem dX12_law_47 : decode cX12_law 47 = .ok (.iload_n 2, 1) := by decide +kernel
theorem dX12_law_48 : decode cX12_law 48 = .ok (.ifCond .le 10, 3) := by decide +kernel
theorem dX12_law_51 : decode cX12_law 51 = .ok (.aload_n 0, 1) := by decide +kernel
theorem dX12_law_52 : decode cX12_law 52 = .ok (.getfield 19, 3) := by decide +kernel
theorem dX12_law_55 : decode cX12_law 55 = .ok (.invokevirtual 161, 3) := by decide +kernel
theorem dX12_law_58 : decode cX12_law 58 = .ok (.iload_n 2, 1) := by decide +kernel
theorem dX12_law_59 : decode cX12_law 59 = .ok (.ireturn, 1) := by decide +kernel
theorem dX12_roll_0 : decode cX12_roll 0 = .ok (.iload_n 1, 1) := by decide +kernel
theorem dX12_roll_1 : decode cX12_roll 1 = .ok (.invokestatic 92, 3) := by decide +kernel
theorem dX12_roll_4 : decode cX12_roll 4 = .ok (.ifCond .eq 24, 3) := by decide +kernel
theorem dX12_roll_7 : decode cX12_roll 7 = .ok (.iload_n 2, 1) := by decide +kernel
theorem dX12_roll_8 : decode cX12_roll 8 = .ok (.iconst 1, 1) := by decide +kernel
theorem dX12_roll_9 : decode cX12_roll 9 = .ok (.bipush 60, 2) := by decide +kernel
theorem dX12_roll_11 : decode cX12_roll 11 = .ok (.invokestatic 96, 3) := by decide +kernel
theorem dX12_roll_14 : decode cX12_roll 14 = .ok (.ifCond .eq 14, 3) := by decide +kernel
theorem dX12_roll_17 : decode cX12_roll 17 = .ok (.iload_n 2, 1) := by decide +kernel
theorem dX12_roll_18 : decode cX12_roll 18 = .ok (.aload_n 0, 1) := by decide +kernel
theorem dX12_roll_19 : decode cX12_roll 19 = .ok (.getfield 10, 3) := by decide +kernel
theorem dX12_roll_22 : decode cX12_roll 22 = .ok (.invokevirtual 149, 3) := by decide +kernel
theorem dX12_roll_25 : decode cX12_roll 25 = .ok (.if_icmp .le 5, 3) := by decide +kernel
theorem dX12_roll_28 : decode cX12_roll 28 = .ok (.iconst (-1), 1) := by decide +kernel
theorem dX12_roll_29 : decode cX12_roll 29 = .ok (.ireturn, 1) := by decide +kernel
theorem dX12_roll_30 : decode cX12_roll 30 = .ok (.aload_n 0, 1) := by decide +kernel
theorem dX12_roll_31 : decode cX12_roll 31 = .ok (.getfield 32, 3) := by decide +kernel
theorem dX12_roll_34 : decode cX12_roll 34 = .ok (.iload_n 2, 1) := by decide +kernel
theorem dX12_roll_35 : decode cX12_roll 35 = .ok (.aload_n 0, 1) := by decide +kernel
theorem dX12_roll_36 : decode cX12_roll 36 = .ok (.getfield 19, 3) := by decide +kernel
theorem dX12_roll_39 : decode cX12_roll 39 = .ok (.getfield 25, 3) := by decide +kernel
theorem dX12_roll_42 : decode cX12_roll 42 = .ok (.invokevirtual 166, 3) := by decide +kernel
theorem dX12_roll_45 : decode cX12_roll 45 = .ok (.istore_n 3, 1) := by decide +kernel
theorem dX12_roll_46 : decode cX12_roll 46 = .ok (.aload_n 0, 1) := by decide +kernel
theorem dX12_roll_47 : decode cX12_roll 47 = .ok (.getfield 10, 3) := by decide +kernel
theorem dX12_roll_50 : decode cX12_roll 50 = .ok (.invokevirtual 158, 3) := by decide +kernel
theorem dX12_roll_53 : decode cX12_roll 53 = .ok (.iload_n 3, 1) := by decide +kernel
theorem dX12_roll_54 : decode cX12_roll 54 = .ok (.ifCond .le 23, 3) := by decide +kernel
theorem dX12_roll_57 : decode cX12_roll 57 = .ok (.aload_n 0, 1) := by decide +kernel
theorem dX12_roll_58 : decode cX12_roll 58 = .ok (.getfield 19, 3) := by decide +kernel
theorem dX12_roll_61 : decode cX12_roll 61 = .ok (.iload_n 1, 1) := by decide +kernel
theorem dX12_roll_62 : decode cX12_roll 62 = .ok (.invokevirtual 170, 3) := by decide +kernel
theorem dX12_roll_65 : decode cX12_roll 65 = .ok (.aload_n 0, 1) := by decide +kernel
theorem dX12_roll_66 : decode cX12_roll 66 = .ok (.getfield 61, 3) := by decide +kernel
theorem dX12_roll_69 : decode cX12_roll 69 = .ok (.getfield 100, 3) := by decide +kernel
theorem dX12_roll_72 : decode cX12_roll 72 = .ok (.iload_n 1, 1) := by decide +kernel
theorem dX12_roll_73 : decode cX12_roll 73 = .ok (.aaload, 1) := by decide +kernel
theorem dX12_roll_74 : decode cX12_roll 74 = .ok (.invokevirtual 123, 3) := by decide +kernel
theorem dX12_roll_77 : decode cX12_roll 77 = .ok (.iload_n 3, 1) := by decide +kernel
theorem dX12_roll_78 : decode cX12_roll 78 = .ok (.ireturn, 1) := by decide +kernel
theorem dX12_ticks_0 : decode cX12_ticks 0 = .ok (.iload_n 1, 1) := by decide +kernel
theorem dX12_ticks_1 : decode cX12_ticks 1 = .ok (.invokestatic 173, 3) := by decide +kernel
theorem dX12_ticks_4 : decode cX12_ticks 4 = .ok (.ifCond .ne 5, 3) := by decide +kernel
theorem dX12_ticks_7 : decode cX12_ticks 7 = .ok (.iconst (-1), 1) := by decide +kernel
theorem dX12_ticks_8 : decode cX12_ticks 8 = .ok (.ireturn, 1) := by decide +kernel
theorem dX12_ticks_9 : decode cX12_ticks 9 = .ok (.aload_n 0, 1) := by decide +kernel
theorem dX12_ticks_10 : decode cX12_ticks 10 = .ok (.getfield 54, 3) := by decide +kernel
theorem dX12_ticks_13 : decode cX12_ticks 13 = .ok (.invokevirtual 176, 3) := by decide +kernel
theorem dX12_ticks_16 : decode cX12_ticks 16 = .ok (.iconst 0, 1) := by decide +kernel
theorem dX12_ticks_17 : decode cX12_ticks 17 = .ok (.istore_n 2, 1) := by decide +kernel
theorem dX12_ticks_18 : decode cX12_ticks 18 = .ok (.iload_n 2, 1) := by decide +kernel
theorem dX12_ticks_19 : decode cX12_ticks 19 = .ok (.iload_n 1, 1) := by decide +kernel
theorem dX12_ticks_20 : decode cX12_ticks 20 = .ok (.if_icmp .ge 21, 3) := by decide +kernel
theorem dX12_ticks_23 : decode cX12_ticks 23 = .ok (.aload_n 0, 1) := by decide +kernel
theorem dX12_ticks_24 : decode cX12_ticks 24 = .ok (.getfield 54, 3) := by decide +kernel
theorem dX12_ticks_27 : decode cX12_ticks 27 = .ok (.aload_n 0, 1) := by decide +kernel
theorem dX12_ticks_28 : decode cX12_ticks 28 = .ok (.getfield 61, 3) := by decide +kernel
theorem dX12_ticks_31 : decode cX12_ticks 31 = .ok (.invokevirtual 179, 3) := by decide +kernel
theorem dX12_ticks_34 : decode cX12_ticks 34 = .ok (.pop, 1) := by decide +kernel
theorem dX12_ticks_35 : decode cX12_ticks 35 = .ok (.iinc 2 1, 3) := by decide +kernel
theorem dX12_ticks_38 : decode cX12_ticks 38 = .ok (.goto (-20), 3) := by decide +kernel
theorem dX12_ticks_41 : decode cX12_ticks 41 = .ok (.aload_n 0, 1) := by decide +kernel
theorem dX12_ticks_42 : decode cX12_ticks 42 = .ok (.getfield 54, 3) := by decide +kernel
theorem dX12_ticks_45 : decode cX12_ticks 45 = .ok (.getfield 183, 3) := by decide +kernel
theorem dX12_ticks_48 : decode cX12_ticks 48 = .ok (.ireturn, 1) := by decide +kernel
theorem dX12_tried_0 : decode cX12_tried 0 = .ok (.iload_n 2, 1) := by decide +kernel
theorem dX12_tried_1 : decode cX12_tried 1 = .ok (.iconst 0, 1) := by decide +kernel
theorem dX12_tried_2 : decode cX12_tried 2 = .ok (.iconst 3, 1) := by decide +kernel
theorem dX12_tried_3 : decode cX12_tried 3 = .ok (.invokestatic 96, 3) := by decide +kernel
theorem dX12_tried_6 : decode cX12_tried 6 = .ok (.istore_n 3, 1) := by decide +kernel
theorem dX12_tried_7 : decode cX12_tried 7 = .ok (.iload_n 2, 1) := by decide +kernel
theorem dX12_tried_8 : decode cX12_tried 8 = .ok (.bipush 10, 2) := by decide +kernel
theorem dX12_tried_10 : decode cX12_tried 10 = .ok (.bipush 39, 2) := by decide +kernel
theorem dX12_tried_12 : decode cX12_tried 12 = .ok (.invokestatic 96, 3) := by decide +kernel
theorem dX12_tried_15 : decode cX12_tried 15 = .ok (.ifCond .eq 21, 3) := by decide +kernel
theorem dX12_tried_18 : decode cX12_tried 18 = .ok (.aload_n 0, 1) := by decide +kernel
theorem dX12_tried_19 : decode cX12_tried 19 = .ok (.getfield 61, 3) := by decide +kernel
theorem dX12_tried_22 : decode cX12_tried 22 = .ok (.iload_n 2, 1) := by decide +kernel
theorem dX12_tried_23 : decode cX12_tried 23 = .ok (.bipush 10, 2) := by decide +kernel
theorem dX12_tried_25 : decode cX12_tried 25 = .ok (.irem, 1) := by decide +kernel
theorem dX12_tried_26 : decode cX12_tried 26 = .ok (.invokevirtual 186, 3) := by decide +kernel
theorem dX12_tried_29 : decode cX12_tried 29 = .ok (.ifCond .eq 7, 3) := by decide +kernel
theorem dX12_tried_32 : decode cX12_tried 32 = .ok (.iconst 1, 1) := by decide +kernel
theorem dX12_tried_33 : decode cX12_tried 33 = .ok (.goto 4, 3) := by decide +kernel
theorem dX12_tried_36 : decode cX12_tried 36 = .ok (.iconst 0, 1) := by decide +kernel
theorem dX12_tried_37 : decode cX12_tried 37 = .ok (.istore 4, 2) := by decide +kernel
theorem dX12_tried_39 : decode cX12_tried 39 = .ok (.iload_n 1, 1) := by decide +kernel
theorem dX12_tried_40 : decode cX12_tried 40 = .ok (.invokestatic 173, 3) := by decide +kernel
theorem dX12_tried_43 : decode cX12_tried 43 = .ok (.ifCond .eq 12, 3) := by decide +kernel
theorem dX12_tried_46 : decode cX12_tried 46 = .ok (.iload_n 3, 1) := by decide +kernel
theorem dX12_tried_47 : decode cX12_tried 47 = .ok (.ifCond .ne 10, 3) := by decide +kernel
theorem dX12_tried_50 : decode cX12_tried 50 = .ok (.iload 4, 2) := by decide +kernel
theorem dX12_tried_52 : decode cX12_tried 52 = .ok (.ifCond .ne 5, 3) := by decide +kernel
theorem dX12_tried_55 : decode cX12_tried 55 = .ok (.iconst (-1), 1) := by decide +kernel
theorem dX12_tried_56 : decode cX12_tried 56 = .ok (.ireturn, 1) := by decide +kernel
theorem dX12_tried_57 : decode cX12_tried 57 = .ok (.aload_n 0, 1) := by decide +kernel
theorem dX12_tried_58 : decode cX12_tried 58 = .ok (.getfield 54, 3) := by decide +kernel
theorem dX12_tried_61 : decode cX12_tried 61 = .ok (.invokevirtual 176, 3) := by decide +kernel
theorem dX12_tried_64 : decode cX12_tried 64 = .ok (.aload_n 0, 1) := by decide +kernel
theorem dX12_tried_65 : decode cX12_tried 65 = .ok (.getfield 65, 3) := by decide +kernel
theorem dX12_tried_68 : decode cX12_tried 68 = .ok (.aload_n 0, 1) := by decide +kernel
theorem dX12_tried_69 : decode cX12_tried 69 = .ok (.getfield 61, 3) := by decide +kernel
theorem dX12_tried_72 : decode cX12_tried 72 = .ok (.invokevirtual 189, 3) := by decide +kernel
theorem dX12_tried_75 : decode cX12_tried 75 = .ok (.iconst 0, 1) := by decide +kernel
theorem dX12_tried_76 : decode cX12_tried 76 = .ok (.istore 5, 2) := by decide +kernel
theorem dX12_tried_78 : decode cX12_tried 78 = .ok (.iload 5, 2) := by decide +kernel
theorem dX12_tried_80 : decode cX12_tried 80 = .ok (.iload_n 1, 1) := by decide +kernel
theorem dX12_tried_81 : decode cX12_tried 81 = .ok (.if_icmp .ge 21, 3) := by decide +kernel
theorem dX12_tried_84 : decode cX12_tried 84 = .ok (.aload_n 0, 1) := by decide +kernel
theorem dX12_tried_85 : decode cX12_tried 85 = .ok (.getfield 54, 3) := by decide +kernel
theorem dX12_tried_88 : decode cX12_tried 88 = .ok (.aload_n 0, 1) := by decide +kernel
theorem dX12_tried_89 : decode cX12_tried 89 = .ok (.getfield 65, 3) := by decide +kernel
theorem dX12_tried_92 : decode cX12_tried 92 = .ok (.invokevirtual 179, 3) := by decide +kernel
theorem dX12_tried_95 : decode cX12_tried 95 = .ok (.pop, 1) := by decide +kernel
theorem dX12_tried_96 : decode cX12_tried 96 = .ok (.iinc 5 1, 3) := by decide +kernel
theorem dX12_tried_99 : decode cX12_tried 99 = .ok (.goto (-21), 3) := by decide +kernel
theorem dX12_tried_102 : decode cX12_tried 102 = .ok (.iload_n 3, 1) := by decide +kernel
theorem dX12_tried_103 : decode cX12_tried 103 = .ok (.ifCond .eq 11, 3) := by decide +kernel
theorem dX12_tried_106 : decode cX12_tried 106 = .ok (.aload_n 0, 1) := by decide +kernel
theorem dX12_tried_107 : decode cX12_tried 107 = .ok (.iload_n 2, 1) := by decide +kernel
theorem dX12_tried_108 : decode cX12_tried 108 = .ok (.invokevirtual 193, 3) := by decide +kernel
theorem dX12_tried_111 : decode cX12_tried 111 = .ok (.goto 15, 3) := by decide +kernel
theorem dX12_tried_114 : decode cX12_tried 114 = .ok (.aload_n 0, 1) := by decide +kernel
theorem dX12_tried_115 : decode cX12_tried 115 = .ok (.iload_n 2, 1) := by decide +kernel
theorem dX12_tried_116 : decode cX12_tried 116 = .ok (.bipush 10, 2) := by decide +kernel
theorem dX12_tried_118 : decode cX12_tried 118 = .ok (.irem, 1) := by decide +kernel
theorem dX12_tried_119 : decode cX12_tried 119 = .ok (.iload_n 2, 1) := by decide +kernel
theorem dX12_tried_120 : decode cX12_tried 120 = .ok (.bipush 10, 2) := by decide +kernel
theorem dX12_tried_122 : decode cX12_tried 122 = .ok (.idiv, 1) := by decide +kernel
theorem dX12_tried_123 : decode cX12_tried 123 = .ok (.invokevirtual 196, 3) := by decide +kernel
theorem dX12_tried_126 : decode cX12_tried 126 = .ok (.ireturn, 1) := by decide +kernel
theorem dX12_triedByAll_0 : decode cX12_triedByAll 0 = .ok (.iload_n 1, 1) := by decide +kernel
theorem dX12_triedByAll_1 : decode cX12_triedByAll 1 = .ok (.tableswitch 51 0 2 #[27, 35, 43], 27) := by decide +kernel
theorem dX12_triedByAll_28 : decode cX12_triedByAll 28 = .ok (.aload_n 0, 1) := by decide +kernel
theorem dX12_triedByAll_29 : decode cX12_triedByAll 29 = .ok (.getfield 54, 3) := by decide +kernel
theorem dX12_triedByAll_32 : decode cX12_triedByAll 32 = .ok (.getfield 183, 3) := by decide +kernel
theorem dX12_triedByAll_35 : decode cX12_triedByAll 35 = .ok (.ireturn, 1) := by decide +kernel
theorem dX12_triedByAll_36 : decode cX12_triedByAll 36 = .ok (.aload_n 0, 1) := by decide +kernel
theorem dX12_triedByAll_37 : decode cX12_triedByAll 37 = .ok (.getfield 54, 3) := by decide +kernel
theorem dX12_triedByAll_40 : decode cX12_triedByAll 40 = .ok (.getfield 200, 3) := by decide +kernel
theorem dX12_triedByAll_43 : decode cX12_triedByAll 43 = .ok (.ireturn, 1) := by decide +kernel
theorem dX12_triedByAll_44 : decode cX12_triedByAll 44 = .ok (.aload_n 0, 1) := by decide +kernel
theorem dX12_triedByAll_45 : decode cX12_triedByAll 45 = .ok (.getfield 54, 3) := by decide +kernel
theorem dX12_triedByAll_48 : decode cX12_triedByAll 48 = .ok (.getfield 203, 3) := by decide +kernel
theorem dX12_triedByAll_51 : decode cX12_triedByAll 51 = .ok (.ireturn, 1) := by decide +kernel
theorem dX12_triedByAll_52 : decode cX12_triedByAll 52 = .ok (.aload_n 0, 1) := by decide +kernel
theorem dX12_triedByAll_53 : decode cX12_triedByAll 53 = .ok (.getfield 65, 3) := by decide +kernel
theorem dX12_triedByAll_56 : decode cX12_triedByAll 56 = .ok (.invokevirtual 206, 3) := by decide +kernel
theorem dX12_triedByAll_59 : decode cX12_triedByAll 59 = .ok (.invokestatic 136, 3) := by decide +kernel
theorem dX12_triedByAll_62 : decode cX12_triedByAll 62 = .ok (.ireturn, 1) := by decide +kernel
theorem dX12_triedByOne_0 : decode cX12_triedByOne 0 = .ok (.aload_n 0, 1) := by decide +kernel
theorem dX12_triedByOne_1 : decode cX12_triedByOne 1 = .ok (.getfield 65, 3) := by decide +kernel
theorem dX12_triedByOne_4 : decode cX12_triedByOne 4 = .ok (.getfield 100, 3) := by decide +kernel
theorem dX12_triedByOne_7 : decode cX12_triedByOne 7 = .ok (.iload_n 1, 1) := by decide +kernel
theorem dX12_triedByOne_8 : decode cX12_triedByOne 8 = .ok (.aaload, 1) := by decide +kernel
theorem dX12_triedByOne_9 : decode cX12_triedByOne 9 = .ok (.astore_n 3, 1) := by decide +kernel
theorem dX12_triedByOne_10 : decode cX12_triedByOne 10 = .ok (.iload_n 2, 1) := by decide +kernel
theorem dX12_triedByOne_11 : decode cX12_triedByOne 11 = .ok (.lookupswitch 35 #[(1, 25), (2, 30)], 25) := by decide +kernel
theorem dX12_triedByOne_36 : decode cX12_triedByOne 36 = .ok (.aload_n 3, 1) := by decide +kernel
theorem dX12_triedByOne_37 : decode cX12_triedByOne 37 = .ok (.getfield 209, 3) := by decide +kernel
theorem dX12_triedByOne_40 : decode cX12_triedByOne 40 = .ok (.ireturn, 1) := by decide +kernel
theorem dX12_triedByOne_41 : decode cX12_triedByOne 41 = .ok (.aload_n 3, 1) := by decide +kernel
theorem dX12_triedByOne_42 : decode cX12_triedByOne 42 = .ok (.getfield 212, 3) := by decide +kernel
theorem dX12_triedByOne_45 : decode cX12_triedByOne 45 = .ok (.ireturn, 1) := by decide +kernel
theorem dX12_triedByOne_46 : decode cX12_triedByOne 46 = .ok (.aload_n 3, 1) := by decide +kernel
theorem dX12_triedByOne_47 : decode cX12_triedByOne 47 = .ok (.getfield 215, 3) := by decide +kernel
theorem dX12_triedByOne_50 : decode cX12_triedByOne 50 = .ok (.ireturn, 1) := by decide +kernel
theorem dX12_singerIs_0 : decode cX12_singerIs 0 = .ok (.aload_n 0, 1) := by decide +kernel
theorem dX12_singerIs_1 : decode cX12_singerIs 1 = .ok (.getfield 61, 3) := by decide +kernel
theorem dX12_singerIs_4 : decode cX12_singerIs 4 = .ok (.iload_n 1, 1) := by decide +kernel
theorem dX12_singerIs_5 : decode cX12_singerIs 5 = .ok (.invokevirtual 186, 3) := by decide +kernel
theorem dX12_singerIs_8 : decode cX12_singerIs 8 = .ok (.ifCond .ne 5, 3) := by decide +kernel
theorem dX12_singerIs_11 : decode cX12_singerIs 11 = .ok (.iconst (-1), 1) := by decide +kernel
theorem dX12_singerIs_12 : decode cX12_singerIs 12 = .ok (.ireturn, 1) := by decide +kernel
theorem dX12_singerIs_13 : decode cX12_singerIs 13 = .ok (.aload_n 0, 1) := by decide +kernel
theorem dX12_singerIs_14 : decode cX12_singerIs 14 = .ok (.getfield 61, 3) := by decide +kernel
theorem dX12_singerIs_17 : decode cX12_singerIs 17 = .ok (.getfield 100, 3) := by decide +kernel
theorem dX12_singerIs_20 : decode cX12_singerIs 20 = .ok (.iload_n 1, 1) := by decide +kernel
theorem dX12_singerIs_21 : decode cX12_singerIs 21 = .ok (.aaload, 1) := by decide +kernel
theorem dX12_singerIs_22 : decode cX12_singerIs 22 = .ok (.astore_n 3, 1) := by decide +kernel
theorem dX12_singerIs_23 : decode cX12_singerIs 23 = .ok (.iload_n 2, 1) := by decide +kernel
theorem dX12_singerIs_24 : decode cX12_singerIs 24 = .ok (.tableswitch 141 0 9 #[56, 61, 66, 71, 76, 81, 86, 91, 104, 125], 56) := by decide +kernel
theorem dX12_singerIs_80 : decode cX12_singerIs 80 = .ok (.aload_n 3, 1) := by decide +kernel
theorem dX12_singerIs_81 : decode cX12_singerIs 81 = .ok (.getfield 114, 3) := by decide +kernel
theorem dX12_singerIs_84 : decode cX12_singerIs 84 = .ok (.ireturn, 1) := by decide +kernel
theorem dX12_singerIs_85 : decode cX12_singerIs 85 = .ok (.aload_n 3, 1) := by decide +kernel
theorem dX12_singerIs_86 : decode cX12_singerIs 86 = .ok (.getfield 117, 3) := by decide +kernel
theorem dX12_singerIs_89 : decode cX12_singerIs 89 = .ok (.ireturn, 1) := by decide +kernel
theorem dX12_singerIs_90 : decode cX12_singerIs 90 = .ok (.aload_n 3, 1) := by decide +kernel
theorem dX12_singerIs_91 : decode cX12_singerIs 91 = .ok (.getfield 120, 3) := by decide +kernel
theorem dX12_singerIs_94 : decode cX12_singerIs 94 = .ok (.ireturn, 1) := by decide +kernel
theorem dX12_singerIs_95 : decode cX12_singerIs 95 = .ok (.aload_n 3, 1) := by decide +kernel
theorem dX12_singerIs_96 : decode cX12_singerIs 96 = .ok (.getfield 209, 3) := by decide +kernel
theorem dX12_singerIs_99 : decode cX12_singerIs 99 = .ok (.ireturn, 1) := by decide +kernel
theorem dX12_singerIs_100 : decode cX12_singerIs 100 = .ok (.aload_n 3, 1) := by decide +kernel
theorem dX12_singerIs_101 : decode cX12_singerIs 101 = .ok (.getfield 212, 3) := by decide +kernel
theorem dX12_singerIs_104 : decode cX12_singerIs 104 = .ok (.ireturn, 1) := by decide +kernel
theorem dX12_singerIs_105 : decode cX12_singerIs 105 = .ok (.aload_n 3, 1) := by decide +kernel
theorem dX12_singerIs_106 : decode cX12_singerIs 106 = .ok (.getfield 215, 3) := by decide +kernel
theorem dX12_singerIs_109 : decode cX12_singerIs 109 = .ok (.ireturn, 1) := by decide +kernel
theorem dX12_singerIs_110 : decode cX12_singerIs 110 = .ok (.aload_n 3, 1) := by decide +kernel
theorem dX12_singerIs_111 : decode cX12_singerIs 111 = .ok (.getfield 218, 3) := by decide +kernel
theorem dX12_singerIs_114 : decode cX12_singerIs 114 = .ok (.ireturn, 1) := by decide +kernel
theorem dX12_singerIs_115 : decode cX12_singerIs 115 = .ok (.aload_n 3, 1) := by decide +kernel
theorem dX12_singerIs_116 : decode cX12_singerIs 116 = .ok (.getfield 219, 3) := by decide +kernel
theorem dX12_singerIs_119 : decode cX12_singerIs 119 = .ok (.ifCond .eq 7, 3) := by decide +kernel
theorem dX12_singerIs_122 : decode cX12_singerIs 122 = .ok (.iconst 1, 1) := by decide +kernel
theorem dX12_singerIs_123 : decode cX12_singerIs 123 = .ok (.goto 4, 3) := by decide +kernel
theorem dX12_singerIs_126 : decode cX12_singerIs 126 = .ok (.iconst 0, 1) := by decide +kernel
theorem dX12_singerIs_127 : decode cX12_singerIs 127 = .ok (.ireturn, 1) := by decide +kernel
theorem dX12_singerIs_128 : decode cX12_singerIs 128 = .ok (.aload_n 0, 1) := by decide +kernel
theorem dX12_singerIs_129 : decode cX12_singerIs 129 = .ok (.getfield 54, 3) := by decide +kernel
theorem dX12_singerIs_132 : decode cX12_singerIs 132 = .ok (.aload_n 0, 1) := by decide +kernel
theorem dX12_singerIs_133 : decode cX12_singerIs 133 = .ok (.getfield 61, 3) := by decide +kernel
theorem dX12_singerIs_136 : decode cX12_singerIs 136 = .ok (.iload_n 1, 1) := by decide +kernel
theorem dX12_singerIs_137 : decode cX12_singerIs 137 = .ok (.invokevirtual 222, 3) := by decide +kernel
theorem dX12_singerIs_140 : decode cX12_singerIs 140 = .ok (.ifCond .eq 7, 3) := by decide +kernel
theorem dX12_singerIs_143 : decode cX12_singerIs 143 = .ok (.iconst 1, 1) := by decide +kernel
theorem dX12_singerIs_144 : decode cX12_singerIs 144 = .ok (.goto 4, 3) := by decide +kernel
theorem dX12_singerIs_147 : decode cX12_singerIs 147 = .ok (.iconst 0, 1) := by decide +kernel
theorem dX12_singerIs_148 : decode cX12_singerIs 148 = .ok (.ireturn, 1) := by decide +kernel
theorem dX12_singerIs_149 : decode cX12_singerIs 149 = .ok (.aload_n 0, 1) := by decide +kernel
theorem dX12_singerIs_150 : decode cX12_singerIs 150 = .ok (.getfield 61, 3) := by decide +kernel
theorem dX12_singerIs_153 : decode cX12_singerIs 153 = .ok (.iload_n 1, 1) := by decide +kernel
theorem dX12_singerIs_154 : decode cX12_singerIs 154 = .ok (.aload_n 0, 1) := by decide +kernel
theorem dX12_singerIs_155 : decode cX12_singerIs 155 = .ok (.getfield 19, 3) := by decide +kernel
theorem dX12_singerIs_158 : decode cX12_singerIs 158 = .ok (.getfield 126, 3) := by decide +kernel
theorem dX12_singerIs_161 : decode cX12_singerIs 161 = .ok (.invokevirtual 226, 3) := by decide +kernel
theorem dX12_singerIs_164 : decode cX12_singerIs 164 = .ok (.ireturn, 1) := by decide +kernel
theorem dX12_singerIs_165 : decode cX12_singerIs 165 = .ok (.iconst (-1), 1) := by decide +kernel
theorem dX12_singerIs_166 : decode cX12_singerIs 166 = .ok (.ireturn, 1) := by decide +kernel
theorem dX12_drift_0 : decode cX12_drift 0 = .ok (.aload_n 0, 1) := by decide +kernel
theorem dX12_drift_1 : decode cX12_drift 1 = .ok (.getfield 61, 3) := by decide +kernel
theorem dX12_drift_4 : decode cX12_drift 4 = .ok (.iload_n 1, 1) := by decide +kernel
theorem dX12_drift_5 : decode cX12_drift 5 = .ok (.invokevirtual 186, 3) := by decide +kernel
theorem dX12_drift_8 : decode cX12_drift 8 = .ok (.ifCond .eq 18, 3) := by decide +kernel
theorem dX12_drift_11 : decode cX12_drift 11 = .ok (.aload_n 0, 1) := by decide +kernel
theorem dX12_drift_12 : decode cX12_drift 12 = .ok (.getfield 61, 3) := by decide +kernel
theorem dX12_drift_15 : decode cX12_drift 15 = .ok (.getfield 100, 3) := by decide +kernel
theorem dX12_drift_18 : decode cX12_drift 18 = .ok (.iload_n 1, 1) := by decide +kernel
theorem dX12_drift_19 : decode cX12_drift 19 = .ok (.aaload, 1) := by decide +kernel
theorem dX12_drift_20 : decode cX12_drift 20 = .ok (.getfield 110, 3) := by decide +kernel
theorem dX12_drift_23 : decode cX12_drift 23 = .ok (.goto 5, 3) := by decide +kernel
theorem dX12_drift_26 : decode cX12_drift 26 = .ok (.bipush (-100), 2) := by decide +kernel
theorem dX12_drift_28 : decode cX12_drift 28 = .ok (.ireturn, 1) := by decide +kernel
theorem dX12_beat_0 : decode cX12_beat 0 = .ok (.iload_n 1, 1) := by decide +kernel
theorem dX12_beat_1 : decode cX12_beat 1 = .ok (.invokestatic 92, 3) := by decide +kernel
theorem dX12_beat_4 : decode cX12_beat 4 = .ok (.ifCond .eq 25, 3) := by decide +kernel
theorem dX12_beat_7 : decode cX12_beat 7 = .ok (.iload_n 2, 1) := by decide +kernel
theorem dX12_beat_8 : decode cX12_beat 8 = .ok (.iconst 0, 1) := by decide +kernel
theorem dX12_beat_9 : decode cX12_beat 9 = .ok (.aload_n 0, 1) := by decide +kernel
theorem dX12_beat_10 : decode cX12_beat 10 = .ok (.getfield 19, 3) := by decide +kernel
theorem dX12_beat_13 : decode cX12_beat 13 = .ok (.getfield 229, 3) := by decide +kernel
theorem dX12_beat_16 : decode cX12_beat 16 = .ok (.iload_n 1, 1) := by decide +kernel
theorem dX12_beat_17 : decode cX12_beat 17 = .ok (.aaload, 1) := by decide +kernel
theorem dX12_beat_18 : decode cX12_beat 18 = .ok (.invokevirtual 233, 3) := by decide +kernel
theorem dX12_beat_21 : decode cX12_beat 21 = .ok (.iconst 1, 1) := by decide +kernel
theorem dX12_beat_22 : decode cX12_beat 22 = .ok (.isub, 1) := by decide +kernel
theorem dX12_beat_23 : decode cX12_beat 23 = .ok (.invokestatic 96, 3) := by decide +kernel
theorem dX12_beat_26 : decode cX12_beat 26 = .ok (.ifCond .ne 5, 3) := by decide +kernel
theorem dX12_beat_29 : decode cX12_beat 29 = .ok (.iconst (-1), 1) := by decide +kernel
theorem dX12_beat_30 : decode cX12_beat 30 = .ok (.ireturn, 1) := by decide +kernel
theorem dX12_beat_31 : decode cX12_beat 31 = .ok (.aload_n 0, 1) := by decide +kernel
theorem dX12_beat_32 : decode cX12_beat 32 = .ok (.getfield 19, 3) := by decide +kernel
theorem dX12_beat_35 : decode cX12_beat 35 = .ok (.getfield 229, 3) := by decide +kernel
theorem dX12_beat_38 : decode cX12_beat 38 = .ok (.iload_n 1, 1) := by decide +kernel
theorem dX12_beat_39 : decode cX12_beat 39 = .ok (.aaload, 1) := by decide +kernel
theorem dX12_beat_40 : decode cX12_beat 40 = .ok (.astore 4, 2) := by decide +kernel
theorem dX12_beat_42 : decode cX12_beat 42 = .ok (.iload_n 3, 1) := by decide +kernel
theorem dX12_beat_43 : decode cX12_beat 43 = .ok (.tableswitch 81 0 3 #[29, 36, 51, 66], 29) := by decide +kernel
theorem dX12_beat_72 : decode cX12_beat 72 = .ok (.aload 4, 2) := by decide +kernel
theorem dX12_beat_74 : decode cX12_beat 74 = .ok (.iload_n 2, 1) := by decide +kernel
theorem dX12_beat_75 : decode cX12_beat 75 = .ok (.invokevirtual 234, 3) := by decide +kernel
theorem dX12_beat_78 : decode cX12_beat 78 = .ok (.ireturn, 1) := by decide +kernel
theorem dX12_beat_79 : decode cX12_beat 79 = .ok (.aload 4, 2) := by decide +kernel
theorem dX12_beat_81 : decode cX12_beat 81 = .ok (.iload_n 2, 1) := by decide +kernel
theorem dX12_beat_82 : decode cX12_beat 82 = .ok (.invokevirtual 237, 3) := by decide +kernel
theorem dX12_beat_85 : decode cX12_beat 85 = .ok (.ifCond .eq 7, 3) := by decide +kernel
theorem dX12_beat_88 : decode cX12_beat 88 = .ok (.iconst 1, 1) := by decide +kernel
theorem dX12_beat_89 : decode cX12_beat 89 = .ok (.goto 4, 3) := by decide +kernel
theorem dX12_beat_92 : decode cX12_beat 92 = .ok (.iconst 0, 1) := by decide +kernel
theorem dX12_beat_93 : decode cX12_beat 93 = .ok (.ireturn, 1) := by decide +kernel
theorem dX12_beat_94 : decode cX12_beat 94 = .ok (.aload 4, 2) := by decide +kernel
theorem dX12_beat_96 : decode cX12_beat 96 = .ok (.iload_n 2, 1) := by decide +kernel
theorem dX12_beat_97 : decode cX12_beat 97 = .ok (.invokevirtual 240, 3) := by decide +kernel
theorem dX12_beat_100 : decode cX12_beat 100 = .ok (.ifCond .eq 7, 3) := by decide +kernel
theorem dX12_beat_103 : decode cX12_beat 103 = .ok (.iconst 1, 1) := by decide +kernel
theorem dX12_beat_104 : decode cX12_beat 104 = .ok (.goto 4, 3) := by decide +kernel
theorem dX12_beat_107 : decode cX12_beat 107 = .ok (.iconst 0, 1) := by decide +kernel
theorem dX12_beat_108 : decode cX12_beat 108 = .ok (.ireturn, 1) := by decide +kernel
theorem dX12_beat_109 : decode cX12_beat 109 = .ok (.aload 4, 2) := by decide +kernel
theorem dX12_beat_111 : decode cX12_beat 111 = .ok (.iload_n 2, 1) := by decide +kernel
theorem dX12_beat_112 : decode cX12_beat 112 = .ok (.invokevirtual 243, 3) := by decide +kernel
theorem dX12_beat_115 : decode cX12_beat 115 = .ok (.ifCond .eq 7, 3) := by decide +kernel
theorem dX12_beat_118 : decode cX12_beat 118 = .ok (.iconst 1, 1) := by decide +kernel
theorem dX12_beat_119 : decode cX12_beat 119 = .ok (.goto 4, 3) := by decide +kernel
theorem dX12_beat_122 : decode cX12_beat 122 = .ok (.iconst 0, 1) := by decide +kernel
theorem dX12_beat_123 : decode cX12_beat 123 = .ok (.ireturn, 1) := by decide +kernel
theorem dX12_beat_124 : decode cX12_beat 124 = .ok (.iconst (-1), 1) := by decide +kernel
theorem dX12_beat_125 : decode cX12_beat 125 = .ok (.ireturn, 1) := by decide +kernel
theorem dX12_end_0 : decode cX12_end 0 = .ok (.aload_n 0, 1) := by decide +kernel
theorem dX12_end_1 : decode cX12_end 1 = .ok (.getfield 61, 3) := by decide +kernel
theorem dX12_end_4 : decode cX12_end 4 = .ok (.invokevirtual 132, 3) := by decide +kernel
theorem dX12_end_7 : decode cX12_end 7 = .ok (.istore_n 3, 1) := by decide +kernel
theorem dX12_end_8 : decode cX12_end 8 = .ok (.iload_n 1, 1) := by decide +kernel
theorem dX12_end_9 : decode cX12_end 9 = .ok (.invokestatic 173, 3) := by decide +kernel
theorem dX12_end_12 : decode cX12_end 12 = .ok (.ifCond .eq 16, 3) := by decide +kernel
theorem dX12_end_15 : decode cX12_end 15 = .ok (.iload_n 2, 1) := by decide +kernel
theorem dX12_end_16 : decode cX12_end 16 = .ok (.iconst 0, 1) := by decide +kernel
theorem dX12_end_17 : decode cX12_end 17 = .ok (.iconst 1, 1) := by decide +kernel
theorem dX12_end_18 : decode cX12_end 18 = .ok (.invokestatic 96, 3) := by decide +kernel
theorem dX12_end_21 : decode cX12_end 21 = .ok (.ifCond .eq 7, 3) := by decide +kernel
theorem dX12_end_24 : decode cX12_end 24 = .ok (.iload_n 3, 1) := by decide +kernel
theorem dX12_end_25 : decode cX12_end 25 = .ok (.ifCond .ne 5, 3) := by decide +kernel
theorem dX12_end_28 : decode cX12_end 28 = .ok (.iconst (-1), 1) := by decide +kernel
theorem dX12_end_29 : decode cX12_end 29 = .ok (.ireturn, 1) := by decide +kernel
theorem dX12_end_30 : decode cX12_end 30 = .ok (.aload_n 0, 1) := by decide +kernel
theorem dX12_end_31 : decode cX12_end 31 = .ok (.getfield 54, 3) := by decide +kernel
theorem dX12_end_34 : decode cX12_end 34 = .ok (.aload_n 0, 1) := by decide +kernel
theorem dX12_end_35 : decode cX12_end 35 = .ok (.getfield 61, 3) := by decide +kernel
theorem dX12_end_38 : decode cX12_end 38 = .ok (.invokevirtual 246, 3) := by decide +kernel
theorem dX12_end_41 : decode cX12_end 41 = .ok (.istore 4, 2) := by decide +kernel
theorem dX12_end_43 : decode cX12_end 43 = .ok (.iload 4, 2) := by decide +kernel
theorem dX12_end_45 : decode cX12_end 45 = .ok (.iload_n 3, 1) := by decide +kernel
theorem dX12_end_46 : decode cX12_end 46 = .ok (.if_icmp .ne 14, 3) := by decide +kernel
theorem dX12_end_49 : decode cX12_end 49 = .ok (.iload_n 2, 1) := by decide +kernel
theorem dX12_end_50 : decode cX12_end 50 = .ok (.ifCond .ne 7, 3) := by decide +kernel
theorem dX12_end_53 : decode cX12_end 53 = .ok (.iconst 0, 1) := by decide +kernel
theorem dX12_end_54 : decode cX12_end 54 = .ok (.goto 5, 3) := by decide +kernel
theorem dX12_end_57 : decode cX12_end 57 = .ok (.bipush (-2), 2) := by decide +kernel
theorem dX12_end_59 : decode cX12_end 59 = .ok (.ireturn, 1) := by decide +kernel
theorem dX12_end_60 : decode cX12_end 60 = .ok (.aload_n 0, 1) := by decide +kernel
theorem dX12_end_61 : decode cX12_end 61 = .ok (.getfield 65, 3) := by decide +kernel
theorem dX12_end_64 : decode cX12_end 64 = .ok (.aload_n 0, 1) := by decide +kernel
theorem dX12_end_65 : decode cX12_end 65 = .ok (.getfield 61, 3) := by decide +kernel
theorem dX12_end_68 : decode cX12_end 68 = .ok (.invokevirtual 189, 3) := by decide +kernel
theorem dX12_end_71 : decode cX12_end 71 = .ok (.iconst 1, 1) := by decide +kernel
theorem dX12_end_72 : decode cX12_end 72 = .ok (.istore 5, 2) := by decide +kernel
theorem dX12_end_74 : decode cX12_end 74 = .ok (.iload 5, 2) := by decide +kernel
theorem dX12_end_76 : decode cX12_end 76 = .ok (.iload_n 1, 1) := by decide +kernel
theorem dX12_end_77 : decode cX12_end 77 = .ok (.if_icmp .gt 64, 3) := by decide +kernel
theorem dX12_end_80 : decode cX12_end 80 = .ok (.aload_n 0, 1) := by decide +kernel
theorem dX12_end_81 : decode cX12_end 81 = .ok (.getfield 54, 3) := by decide +kernel
theorem dX12_end_84 : decode cX12_end 84 = .ok (.aload_n 0, 1) := by decide +kernel
theorem dX12_end_85 : decode cX12_end 85 = .ok (.getfield 65, 3) := by decide +kernel
theorem dX12_end_88 : decode cX12_end 88 = .ok (.invokevirtual 179, 3) := by decide +kernel
theorem dX12_end_91 : decode cX12_end 91 = .ok (.pop, 1) := by decide +kernel
theorem dX12_end_92 : decode cX12_end 92 = .ok (.aload_n 0, 1) := by decide +kernel
theorem dX12_end_93 : decode cX12_end 93 = .ok (.getfield 54, 3) := by decide +kernel
theorem dX12_end_96 : decode cX12_end 96 = .ok (.aload_n 0, 1) := by decide +kernel
theorem dX12_end_97 : decode cX12_end 97 = .ok (.getfield 65, 3) := by decide +kernel
theorem dX12_end_100 : decode cX12_end 100 = .ok (.invokevirtual 246, 3) := by decide +kernel
theorem dX12_end_103 : decode cX12_end 103 = .ok (.istore 6, 2) := by decide +kernel
theorem dX12_end_105 : decode cX12_end 105 = .ok (.iload 6, 2) := by decide +kernel
theorem dX12_end_107 : decode cX12_end 107 = .ok (.iload_n 3, 1) := by decide +kernel
theorem dX12_end_108 : decode cX12_end 108 = .ok (.if_icmp .ne 23, 3) := by decide +kernel
theorem dX12_end_111 : decode cX12_end 111 = .ok (.iload_n 2, 1) := by decide +kernel
theorem dX12_end_112 : decode cX12_end 112 = .ok (.ifCond .ne 8, 3) := by decide +kernel
theorem dX12_end_115 : decode cX12_end 115 = .ok (.iload 5, 2) := by decide +kernel
theorem dX12_end_117 : decode cX12_end 117 = .ok (.goto 13, 3) := by decide +kernel
theorem dX12_end_120 : decode cX12_end 120 = .ok (.iload 6, 2) := by decide +kernel
theorem dX12_end_122 : decode cX12_end 122 = .ok (.iload 4, 2) := by decide +kernel
theorem dX12_end_124 : decode cX12_end 124 = .ok (.iconst (-1), 1) := by decide +kernel
theorem dX12_end_125 : decode cX12_end 125 = .ok (.ixor, 1) := by decide +kernel
theorem dX12_end_126 : decode cX12_end 126 = .ok (.iand, 1) := by decide +kernel
theorem dX12_end_127 : decode cX12_end 127 = .ok (.invokestatic 250, 3) := by decide +kernel
theorem dX12_end_130 : decode cX12_end 130 = .ok (.ireturn, 1) := by decide +kernel
theorem dX12_end_131 : decode cX12_end 131 = .ok (.iload 6, 2) := by decide +kernel
theorem dX12_end_133 : decode cX12_end 133 = .ok (.istore 4, 2) := by decide +kernel
theorem dX12_end_135 : decode cX12_end 135 = .ok (.iinc 5 1, 3) := by decide +kernel
theorem dX12_end_138 : decode cX12_end 138 = .ok (.goto (-64), 3) := by decide +kernel
theorem dX12_end_141 : decode cX12_end 141 = .ok (.bipush (-2), 2) := by decide +kernel
theorem dX12_end_143 : decode cX12_end 143 = .ok (.ireturn, 1) := by decide +kernel
theorem dX12_spread_0 : decode cX12_spread 0 = .ok (.iload_n 1, 1) := by decide +kernel
theorem dX12_spread_1 : decode cX12_spread 1 = .ok (.invokestatic 173, 3) := by decide +kernel
theorem dX12_spread_4 : decode cX12_spread 4 = .ok (.ifCond .ne 5, 3) := by decide +kernel
theorem dX12_spread_7 : decode cX12_spread 7 = .ok (.iconst (-1), 1) := by decide +kernel
theorem dX12_spread_8 : decode cX12_spread 8 = .ok (.ireturn, 1) := by decide +kernel
theorem dX12_spread_9 : decode cX12_spread 9 = .ok (.aload_n 0, 1) := by decide +kernel
theorem dX12_spread_10 : decode cX12_spread 10 = .ok (.getfield 65, 3) := by decide +kernel
theorem dX12_spread_13 : decode cX12_spread 13 = .ok (.aload_n 0, 1) := by decide +kernel
theorem dX12_spread_14 : decode cX12_spread 14 = .ok (.getfield 61, 3) := by decide +kernel
theorem dX12_spread_17 : decode cX12_spread 17 = .ok (.invokevirtual 189, 3) := by decide +kernel
theorem dX12_spread_20 : decode cX12_spread 20 = .ok (.iconst 0, 1) := by decide +kernel
theorem dX12_spread_21 : decode cX12_spread 21 = .ok (.istore_n 2, 1) := by decide +kernel
theorem dX12_spread_22 : decode cX12_spread 22 = .ok (.iconst 0, 1) := by decide +kernel
theorem dX12_spread_23 : decode cX12_spread 23 = .ok (.istore_n 3, 1) := by decide +kernel
theorem dX12_spread_24 : decode cX12_spread 24 = .ok (.iload_n 3, 1) := by decide +kernel
theorem dX12_spread_25 : decode cX12_spread 25 = .ok (.iload_n 1, 1) := by decide +kernel
theorem dX12_spread_26 : decode cX12_spread 26 = .ok (.if_icmp .ge 39, 3) := by decide +kernel
theorem dX12_spread_29 : decode cX12_spread 29 = .ok (.aload_n 0, 1) := by decide +kernel
theorem dX12_spread_30 : decode cX12_spread 30 = .ok (.getfield 54, 3) := by decide +kernel
theorem dX12_spread_33 : decode cX12_spread 33 = .ok (.aload_n 0, 1) := by decide +kernel
theorem dX12_spread_34 : decode cX12_spread 34 = .ok (.getfield 65, 3) := by decide +kernel
theorem dX12_spread_37 : decode cX12_spread 37 = .ok (.invokevirtual 179, 3) := by decide +kernel
theorem dX12_spread_40 : decode cX12_spread 40 = .ok (.ifCond .eq 25, 3) := by decide +kernel
theorem dX12_spread_43 : decode cX12_spread 43 = .ok (.iload_n 2, 1) := by decide +kernel
theorem dX12_spread_44 : decode cX12_spread 44 = .ok (.aload_n 0, 1) := by decide +kernel
theorem dX12_spread_45 : decode cX12_spread 45 = .ok (.getfield 54, 3) := by decide +kernel
theorem dX12_spread_48 : decode cX12_spread 48 = .ok (.aload_n 0, 1) := by decide +kernel
theorem dX12_spread_49 : decode cX12_spread 49 = .ok (.getfield 65, 3) := by decide +kernel
theorem dX12_spread_52 : decode cX12_spread 52 = .ok (.invokevirtual 253, 3) := by decide +kernel
theorem dX12_spread_55 : decode cX12_spread 55 = .ok (.invokestatic 256, 3) := by decide +kernel
theorem dX12_spread_58 : decode cX12_spread 58 = .ok (.istore_n 2, 1) := by decide +kernel
theorem dX12_spread_59 : decode cX12_spread 59 = .ok (.iinc 3 1, 3) := by decide +kernel
theorem dX12_spread_62 : decode cX12_spread 62 = .ok (.goto (-38), 3) := by decide +kernel
theorem dX12_spread_65 : decode cX12_spread 65 = .ok (.iload_n 2, 1) := by decide +kernel
theorem dX12_spread_66 : decode cX12_spread 66 = .ok (.ireturn, 1) := by decide +kernel
theorem dX12_firstCome_0 : decode cX12_firstCome 0 = .ok (.iload_n 1, 1) := by decide +kernel
theorem dX12_firstCome_1 : decode cX12_firstCome 1 = .ok (.invokestatic 173, 3) := by decide +kernel
theorem dX12_firstCome_4 : decode cX12_firstCome 4 = .ok (.ifCond .eq 12, 3) := by decide +kernel
theorem dX12_firstCome_7 : decode cX12_firstCome 7 = .ok (.iload_n 2, 1) := by decide +kernel
theorem dX12_firstCome_8 : decode cX12_firstCome 8 = .ok (.iconst 0, 1) := by decide +kernel
theorem dX12_firstCome_9 : decode cX12_firstCome 9 = .ok (.iconst 1, 1) := by decide +kernel
theorem dX12_firstCome_10 : decode cX12_firstCome 10 = .ok (.invokestatic 96, 3) := by decide +kernel
theorem dX12_firstCome_13 : decode cX12_firstCome 13 = .ok (.ifCond .ne 5, 3) := by decide +kernel
theorem dX12_firstCome_16 : decode cX12_firstCome 16 = .ok (.iconst (-1), 1) := by decide +kernel
theorem dX12_firstCome_17 : decode cX12_firstCome 17 = .ok (.ireturn, 1) := by decide +kernel
theorem dX12_firstCome_18 : decode cX12_firstCome 18 = .ok (.aload_n 0, 1) := by decide +kernel
theorem dX12_firstCome_19 : decode cX12_firstCome 19 = .ok (.getfield 65, 3) := by decide +kernel
theorem dX12_firstCome_22 : decode cX12_firstCome 22 = .ok (.aload_n 0, 1) := by decide +kernel
theorem dX12_firstCome_23 : decode cX12_firstCome 23 = .ok (.getfield 61, 3) := by decide +kernel
theorem dX12_firstCome_26 : decode cX12_firstCome 26 = .ok (.invokevirtual 189, 3) := by decide +kernel
theorem dX12_firstCome_29 : decode cX12_firstCome 29 = .ok (.iconst 0, 1) := by decide +kernel
theorem dX12_firstCome_30 : decode cX12_firstCome 30 = .ok (.istore_n 3, 1) := by decide +kernel
theorem dX12_firstCome_31 : decode cX12_firstCome 31 = .ok (.iload_n 3, 1) := by decide +kernel
theorem dX12_firstCome_32 : decode cX12_firstCome 32 = .ok (.iload_n 1, 1) := by decide +kernel
theorem dX12_firstCome_33 : decode cX12_firstCome 33 = .ok (.if_icmp .gt 55, 3) := by decide +kernel
theorem dX12_firstCome_36 : decode cX12_firstCome 36 = .ok (.aload_n 0, 1) := by decide +kernel
theorem dX12_firstCome_37 : decode cX12_firstCome 37 = .ok (.getfield 65, 3) := by decide +kernel
theorem dX12_firstCome_40 : decode cX12_firstCome 40 = .ok (.invokevirtual 206, 3) := by decide +kernel
theorem dX12_firstCome_43 : decode cX12_firstCome 43 = .ok (.ifCond .eq 22, 3) := by decide +kernel
theorem dX12_firstCome_46 : decode cX12_firstCome 46 = .ok (.iload_n 2, 1) := by decide +kernel
theorem dX12_firstCome_47 : decode cX12_firstCome 47 = .ok (.ifCond .ne 16, 3) := by decide +kernel
theorem dX12_firstCome_50 : decode cX12_firstCome 50 = .ok (.aload_n 0, 1) := by decide +kernel
theorem dX12_firstCome_51 : decode cX12_firstCome 51 = .ok (.getfield 65, 3) := by decide +kernel
theorem dX12_firstCome_54 : decode cX12_firstCome 54 = .ok (.invokevirtual 206, 3) := by decide +kernel
theorem dX12_firstCome_57 : decode cX12_firstCome 57 = .ok (.invokestatic 261, 3) := by decide +kernel
theorem dX12_firstCome_60 : decode cX12_firstCome 60 = .ok (.goto 4, 3) := by decide +kernel
theorem dX12_firstCome_63 : decode cX12_firstCome 63 = .ok (.iload_n 3, 1) := by decide +kernel
theorem dX12_firstCome_64 : decode cX12_firstCome 64 = .ok (.ireturn, 1) := by decide +kernel
theorem dX12_firstCome_65 : decode cX12_firstCome 65 = .ok (.iload_n 3, 1) := by decide +kernel
theorem dX12_firstCome_66 : decode cX12_firstCome 66 = .ok (.iload_n 1, 1) := by decide +kernel
theorem dX12_firstCome_67 : decode cX12_firstCome 67 = .ok (.if_icmp .ge 15, 3) := by decide +kernel
theorem dX12_firstCome_70 : decode cX12_firstCome 70 = .ok (.aload_n 0, 1) := by decide +kernel
theorem dX12_firstCome_71 : decode cX12_firstCome 71 = .ok (.getfield 54, 3) := by decide +kernel
theorem dX12_firstCome_74 : decode cX12_firstCome 74 = .ok (.aload_n 0, 1) := by decide +kernel
theorem dX12_firstCome_75 : decode cX12_firstCome 75 = .ok (.getfield 65, 3) := by decide +kernel
theorem dX12_firstCome_78 : decode cX12_firstCome 78 = .ok (.invokevirtual 179, 3) := by decide +kernel
theorem dX12_firstCome_81 : decode cX12_firstCome 81 = .ok (.pop, 1) := by decide +kernel
theorem dX12_firstCome_82 : decode cX12_firstCome 82 = .ok (.iinc 3 1, 3) := by decide +kernel
theorem dX12_firstCome_85 : decode cX12_firstCome 85 = .ok (.goto (-54), 3) := by decide +kernel
theorem dX12_firstCome_88 : decode cX12_firstCome 88 = .ok (.bipush (-2), 2) := by decide +kernel
theorem dX12_firstCome_90 : decode cX12_firstCome 90 = .ok (.ireturn, 1) := by decide +kernel
theorem dX12_together_0 : decode cX12_together 0 = .ok (.aload_n 0, 1) := by decide +kernel
theorem dX12_together_1 : decode cX12_together 1 = .ok (.getfield 61, 3) := by decide +kernel
theorem dX12_together_4 : decode cX12_together 4 = .ok (.iload_n 1, 1) := by decide +kernel
theorem dX12_together_5 : decode cX12_together 5 = .ok (.invokevirtual 186, 3) := by decide +kernel
theorem dX12_together_8 : decode cX12_together 8 = .ok (.ifCond .eq 26, 3) := by decide +kernel
theorem dX12_together_11 : decode cX12_together 11 = .ok (.aload_n 0, 1) := by decide +kernel
theorem dX12_together_12 : decode cX12_together 12 = .ok (.getfield 61, 3) := by decide +kernel
theorem dX12_together_15 : decode cX12_together 15 = .ok (.iload_n 2, 1) := by decide +kernel
theorem dX12_together_16 : decode cX12_together 16 = .ok (.invokevirtual 186, 3) := by decide +kernel
theorem dX12_together_19 : decode cX12_together 19 = .ok (.ifCond .eq 15, 3) := by decide +kernel
theorem dX12_together_22 : decode cX12_together 22 = .ok (.iload_n 1, 1) := by decide +kernel
theorem dX12_together_23 : decode cX12_together 23 = .ok (.iload_n 2, 1) := by decide +kernel
theorem dX12_together_24 : decode cX12_together 24 = .ok (.if_icmp .eq 10, 3) := by decide +kernel
theorem dX12_together_27 : decode cX12_together 27 = .ok (.iload_n 3, 1) := by decide +kernel
theorem dX12_together_28 : decode cX12_together 28 = .ok (.invokestatic 173, 3) := by decide +kernel
theorem dX12_together_31 : decode cX12_together 31 = .ok (.ifCond .ne 5, 3) := by decide +kernel
theorem dX12_together_34 : decode cX12_together 34 = .ok (.iconst (-1), 1) := by decide +kernel
theorem dX12_together_35 : decode cX12_together 35 = .ok (.ireturn, 1) := by decide +kernel
theorem dX12_together_36 : decode cX12_together 36 = .ok (.aload_n 0, 1) := by decide +kernel
theorem dX12_together_37 : decode cX12_together 37 = .ok (.getfield 65, 3) := by decide +kernel
theorem dX12_together_40 : decode cX12_together 40 = .ok (.aload_n 0, 1) := by decide +kernel
theorem dX12_together_41 : decode cX12_together 41 = .ok (.getfield 61, 3) := by decide +kernel
theorem dX12_together_44 : decode cX12_together 44 = .ok (.invokevirtual 189, 3) := by decide +kernel
theorem dX12_together_47 : decode cX12_together 47 = .ok (.iconst 0, 1) := by decide +kernel
theorem dX12_together_48 : decode cX12_together 48 = .ok (.istore 4, 2) := by decide +kernel
theorem dX12_together_50 : decode cX12_together 50 = .ok (.iconst 0, 1) := by decide +kernel
theorem dX12_together_51 : decode cX12_together 51 = .ok (.istore 5, 2) := by decide +kernel
theorem dX12_together_53 : decode cX12_together 53 = .ok (.iload 5, 2) := by decide +kernel
theorem dX12_together_55 : decode cX12_together 55 = .ok (.iload_n 3, 1) := by decide +kernel
theorem dX12_together_56 : decode cX12_together 56 = .ok (.if_icmp .ge 53, 3) := by decide +kernel
theorem dX12_together_59 : decode cX12_together 59 = .ok (.aload_n 0, 1) := by decide +kernel
theorem dX12_together_60 : decode cX12_together 60 = .ok (.getfield 54, 3) := by decide +kernel
theorem dX12_together_63 : decode cX12_together 63 = .ok (.aload_n 0, 1) := by decide +kernel
theorem dX12_together_64 : decode cX12_together 64 = .ok (.getfield 65, 3) := by decide +kernel
theorem dX12_together_67 : decode cX12_together 67 = .ok (.invokevirtual 179, 3) := by decide +kernel
theorem dX12_together_70 : decode cX12_together 70 = .ok (.ifCond .eq 39, 3) := by decide +kernel
theorem dX12_together_73 : decode cX12_together 73 = .ok (.aload_n 0, 1) := by decide +kernel
theorem dX12_together_74 : decode cX12_together 74 = .ok (.getfield 65, 3) := by decide +kernel
theorem dX12_together_77 : decode cX12_together 77 = .ok (.getfield 100, 3) := by decide +kernel
theorem dX12_together_80 : decode cX12_together 80 = .ok (.iload_n 1, 1) := by decide +kernel
theorem dX12_together_81 : decode cX12_together 81 = .ok (.aaload, 1) := by decide +kernel
theorem dX12_together_82 : decode cX12_together 82 = .ok (.getfield 209, 3) := by decide +kernel
theorem dX12_together_85 : decode cX12_together 85 = .ok (.aload_n 0, 1) := by decide +kernel
theorem dX12_together_86 : decode cX12_together 86 = .ok (.getfield 65, 3) := by decide +kernel
theorem dX12_together_89 : decode cX12_together 89 = .ok (.getfield 100, 3) := by decide +kernel
theorem dX12_together_92 : decode cX12_together 92 = .ok (.iload_n 2, 1) := by decide +kernel
theorem dX12_together_93 : decode cX12_together 93 = .ok (.aaload, 1) := by decide +kernel
theorem dX12_together_94 : decode cX12_together 94 = .ok (.getfield 209, 3) := by decide +kernel
theorem dX12_together_97 : decode cX12_together 97 = .ok (.if_icmp .ne 6, 3) := by decide +kernel
theorem dX12_together_100 : decode cX12_together 100 = .ok (.iinc 4 1, 3) := by decide +kernel
theorem dX12_together_103 : decode cX12_together 103 = .ok (.iinc 5 1, 3) := by decide +kernel
theorem dX12_together_106 : decode cX12_together 106 = .ok (.goto (-53), 3) := by decide +kernel
theorem dX12_together_109 : decode cX12_together 109 = .ok (.iload 4, 2) := by decide +kernel
theorem dX12_together_111 : decode cX12_together 111 = .ok (.ireturn, 1) := by decide +kernel
theorem dX12_alone_0 : decode cX12_alone 0 = .ok (.aload_n 0, 1) := by decide +kernel
theorem dX12_alone_1 : decode cX12_alone 1 = .ok (.getfield 61, 3) := by decide +kernel
theorem dX12_alone_4 : decode cX12_alone 4 = .ok (.iload_n 1, 1) := by decide +kernel
theorem dX12_alone_5 : decode cX12_alone 5 = .ok (.invokevirtual 186, 3) := by decide +kernel
theorem dX12_alone_8 : decode cX12_alone 8 = .ok (.ifCond .ne 5, 3) := by decide +kernel
theorem dX12_alone_11 : decode cX12_alone 11 = .ok (.iconst (-1), 1) := by decide +kernel
theorem dX12_alone_12 : decode cX12_alone 12 = .ok (.ireturn, 1) := by decide +kernel
theorem dX12_alone_13 : decode cX12_alone 13 = .ok (.iconst 1, 1) := by decide +kernel
theorem dX12_alone_14 : decode cX12_alone 14 = .ok (.aload_n 0, 1) := by decide +kernel
theorem dX12_alone_15 : decode cX12_alone 15 = .ok (.getfield 61, 3) := by decide +kernel
theorem dX12_alone_18 : decode cX12_alone 18 = .ok (.getfield 100, 3) := by decide +kernel
theorem dX12_alone_21 : decode cX12_alone 21 = .ok (.iload_n 1, 1) := by decide +kernel
theorem dX12_alone_22 : decode cX12_alone 22 = .ok (.aaload, 1) := by decide +kernel
theorem dX12_alone_23 : decode cX12_alone 23 = .ok (.invokevirtual 264, 3) := by decide +kernel
theorem dX12_alone_26 : decode cX12_alone 26 = .ok (.invokestatic 256, 3) := by decide +kernel
theorem dX12_alone_29 : decode cX12_alone 29 = .ok (.istore_n 2, 1) := by decide +kernel
theorem dX12_alone_30 : decode cX12_alone 30 = .ok (.aload_n 0, 1) := by decide +kernel
theorem dX12_alone_31 : decode cX12_alone 31 = .ok (.getfield 19, 3) := by decide +kernel
theorem dX12_alone_34 : decode cX12_alone 34 = .ok (.getfield 229, 3) := by decide +kernel
theorem dX12_alone_37 : decode cX12_alone 37 = .ok (.iload_n 1, 1) := by decide +kernel
theorem dX12_alone_38 : decode cX12_alone 38 = .ok (.aaload, 1) := by decide +kernel
theorem dX12_alone_39 : decode cX12_alone 39 = .ok (.invokevirtual 233, 3) := by decide +kernel
theorem dX12_alone_42 : decode cX12_alone 42 = .ok (.aload_n 0, 1) := by decide +kernel
theorem dX12_alone_43 : decode cX12_alone 43 = .ok (.getfield 19, 3) := by decide +kernel
theorem dX12_alone_46 : decode cX12_alone 46 = .ok (.getfield 129, 3) := by decide +kernel
theorem dX12_alone_49 : decode cX12_alone 49 = .ok (.imul, 1) := by decide +kernel
theorem dX12_alone_50 : decode cX12_alone 50 = .ok (.iload_n 2, 1) := by decide +kernel
theorem dX12_alone_51 : decode cX12_alone 51 = .ok (.iadd, 1) := by decide +kernel
theorem dX12_alone_52 : decode cX12_alone 52 = .ok (.iconst 1, 1) := by decide +kernel
theorem dX12_alone_53 : decode cX12_alone 53 = .ok (.isub, 1) := by decide +kernel
theorem dX12_alone_54 : decode cX12_alone 54 = .ok (.iload_n 2, 1) := by decide +kernel
theorem dX12_alone_55 : decode cX12_alone 55 = .ok (.idiv, 1) := by decide +kernel
theorem dX12_alone_56 : decode cX12_alone 56 = .ok (.ireturn, 1) := by decide +kernel
theorem dX12_sounds_0 : decode cX12_sounds 0 = .ok (.iload_n 1, 1) := by decide +kernel
theorem dX12_sounds_1 : decode cX12_sounds 1 = .ok (.iconst 0, 1) := by decide +kernel
theorem dX12_sounds_2 : decode cX12_sounds 2 = .ok (.iconst 1, 1) := by decide +kernel
theorem dX12_sounds_3 : decode cX12_sounds 3 = .ok (.invokestatic 96, 3) := by decide +kernel
theorem dX12_sounds_6 : decode cX12_sounds 6 = .ok (.ifCond .ne 5, 3) := by decide +kernel
theorem dX12_sounds_9 : decode cX12_sounds 9 = .ok (.iconst (-1), 1) := by decide +kernel
theorem dX12_sounds_10 : decode cX12_sounds 10 = .ok (.ireturn, 1) := by decide +kernel
theorem dX12_sounds_11 : decode cX12_sounds 11 = .ok (.iconst 0, 1) := by decide +kernel
theorem dX12_sounds_12 : decode cX12_sounds 12 = .ok (.istore_n 2, 1) := by decide +kernel
theorem dX12_sounds_13 : decode cX12_sounds 13 = .ok (.iconst 0, 1) := by decide +kernel
theorem dX12_sounds_14 : decode cX12_sounds 14 = .ok (.istore_n 3, 1) := by decide +kernel
theorem dX12_sounds_15 : decode cX12_sounds 15 = .ok (.iconst 0, 1) := by decide +kernel
theorem dX12_sounds_16 : decode cX12_sounds 16 = .ok (.istore 4, 2) := by decide +kernel
theorem dX12_sounds_18 : decode cX12_sounds 18 = .ok (.iload 4, 2) := by decide +kernel
theorem dX12_sounds_20 : decode cX12_sounds 20 = .ok (.bipush 8, 2) := by decide +kernel
theorem dX12_sounds_22 : decode cX12_sounds 22 = .ok (.if_icmp .ge 76, 3) := by decide +kernel
theorem dX12_sounds_25 : decode cX12_sounds 25 = .ok (.aload_n 0, 1) := by decide +kernel
theorem dX12_sounds_26 : decode cX12_sounds 26 = .ok (.getfield 54, 3) := by decide +kernel
theorem dX12_sounds_29 : decode cX12_sounds 29 = .ok (.aload_n 0, 1) := by decide +kernel
theorem dX12_sounds_30 : decode cX12_sounds 30 = .ok (.getfield 61, 3) := by decide +kernel
theorem dX12_sounds_33 : decode cX12_sounds 33 = .ok (.iload 4, 2) := by decide +kernel
theorem dX12_sounds_35 : decode cX12_sounds 35 = .ok (.invokevirtual 267, 3) := by decide +kernel
theorem dX12_sounds_38 : decode cX12_sounds 38 = .ok (.istore 5, 2) := by decide +kernel
theorem dX12_sounds_40 : decode cX12_sounds 40 = .ok (.iload 5, 2) := by decide +kernel
theorem dX12_sounds_42 : decode cX12_sounds 42 = .ok (.ifCond .eq 10, 3) := by decide +kernel
theorem dX12_sounds_45 : decode cX12_sounds 45 = .ok (.iload_n 2, 1) := by decide +kernel
theorem dX12_sounds_46 : decode cX12_sounds 46 = .ok (.iconst 1, 1) := by decide +kernel
theorem dX12_sounds_47 : decode cX12_sounds 47 = .ok (.iload 5, 2) := by decide +kernel
theorem dX12_sounds_49 : decode cX12_sounds 49 = .ok (.ishl, 1) := by decide +kernel
theorem dX12_sounds_50 : decode cX12_sounds 50 = .ok (.ior, 1) := by decide +kernel
theorem dX12_sounds_51 : decode cX12_sounds 51 = .ok (.istore_n 2, 1) := by decide +kernel
theorem dX12_sounds_52 : decode cX12_sounds 52 = .ok (.iconst 0, 1) := by decide +kernel
theorem dX12_sounds_53 : decode cX12_sounds 53 = .ok (.istore 6, 2) := by decide +kernel
theorem dX12_sounds_55 : decode cX12_sounds 55 = .ok (.iload 6, 2) := by decide +kernel
theorem dX12_sounds_57 : decode cX12_sounds 57 = .ok (.iload 4, 2) := by decide +kernel
theorem dX12_sounds_59 : decode cX12_sounds 59 = .ok (.if_icmp .ge 33, 3) := by decide +kernel
theorem dX12_sounds_62 : decode cX12_sounds 62 = .ok (.iload 5, 2) := by decide +kernel
theorem dX12_sounds_64 : decode cX12_sounds 64 = .ok (.aload_n 0, 1) := by decide +kernel
theorem dX12_sounds_65 : decode cX12_sounds 65 = .ok (.getfield 54, 3) := by decide +kernel
theorem dX12_sounds_68 : decode cX12_sounds 68 = .ok (.aload_n 0, 1) := by decide +kernel
theorem dX12_sounds_69 : decode cX12_sounds 69 = .ok (.getfield 61, 3) := by decide +kernel
theorem dX12_sounds_72 : decode cX12_sounds 72 = .ok (.iload 6, 2) := by decide +kernel
theorem dX12_sounds_74 : decode cX12_sounds 74 = .ok (.invokevirtual 267, 3) := by decide +kernel
theorem dX12_sounds_77 : decode cX12_sounds 77 = .ok (.invokestatic 271, 3) := by decide +kernel
theorem dX12_sounds_80 : decode cX12_sounds 80 = .ok (.ifCond .eq 6, 3) := by decide +kernel
theorem dX12_sounds_83 : decode cX12_sounds 83 = .ok (.iinc 3 1, 3) := by decide +kernel
theorem dX12_sounds_86 : decode cX12_sounds 86 = .ok (.iinc 6 1, 3) := by decide +kernel
theorem dX12_sounds_89 : decode cX12_sounds 89 = .ok (.goto (-34), 3) := by decide +kernel
theorem dX12_sounds_92 : decode cX12_sounds 92 = .ok (.iinc 4 1, 3) := by decide +kernel
theorem dX12_sounds_95 : decode cX12_sounds 95 = .ok (.goto (-77), 3) := by decide +kernel
theorem dX12_sounds_98 : decode cX12_sounds 98 = .ok (.iload_n 1, 1) := by decide +kernel
theorem dX12_sounds_99 : decode cX12_sounds 99 = .ok (.ifCond .ne 7, 3) := by decide +kernel
theorem dX12_sounds_102 : decode cX12_sounds 102 = .ok (.iload_n 2, 1) := by decide +kernel
theorem dX12_sounds_103 : decode cX12_sounds 103 = .ok (.goto 4, 3) := by decide +kernel
theorem dX12_sounds_106 : decode cX12_sounds 106 = .ok (.iload_n 3, 1) := by decide +kernel
theorem dX12_sounds_107 : decode cX12_sounds 107 = .ok (.ireturn, 1) := by decide +kernel
theorem dX12_canon_0 : decode cX12_canon 0 = .ok (.iload_n 3, 1) := by decide +kernel
theorem dX12_canon_1 : decode cX12_canon 1 = .ok (.iconst 0, 1) := by decide +kernel
theorem dX12_canon_2 : decode cX12_canon 2 = .ok (.bipush 59, 2) := by decide +kernel
theorem dX12_canon_4 : decode cX12_canon 4 = .ok (.invokestatic 96, 3) := by decide +kernel
theorem dX12_canon_7 : decode cX12_canon 7 = .ok (.istore 4, 2) := by decide +kernel
theorem dX12_canon_9 : decode cX12_canon 9 = .ok (.iload_n 3, 1) := by decide +kernel
theorem dX12_canon_10 : decode cX12_canon 10 = .ok (.bipush 100, 2) := by decide +kernel
theorem dX12_canon_12 : decode cX12_canon 12 = .ok (.bipush 101, 2) := by decide +kernel
theorem dX12_canon_14 : decode cX12_canon 14 = .ok (.invokestatic 96, 3) := by decide +kernel
theorem dX12_canon_17 : decode cX12_canon 17 = .ok (.istore 5, 2) := by decide +kernel
theorem dX12_canon_19 : decode cX12_canon 19 = .ok (.iload_n 1, 1) := by decide +kernel
theorem dX12_canon_20 : decode cX12_canon 20 = .ok (.invokestatic 92, 3) := by decide +kernel
theorem dX12_canon_23 : decode cX12_canon 23 = .ok (.ifCond .eq 20, 3) := by decide +kernel
theorem dX12_canon_26 : decode cX12_canon 26 = .ok (.iload_n 2, 1) := by decide +kernel
theorem dX12_canon_27 : decode cX12_canon 27 = .ok (.invokestatic 92, 3) := by decide +kernel
theorem dX12_canon_30 : decode cX12_canon 30 = .ok (.ifCond .eq 13, 3) := by decide +kernel
theorem dX12_canon_33 : decode cX12_canon 33 = .ok (.iload 4, 2) := by decide +kernel
theorem dX12_canon_35 : decode cX12_canon 35 = .ok (.ifCond .ne 10, 3) := by decide +kernel
theorem dX12_canon_38 : decode cX12_canon 38 = .ok (.iload 5, 2) := by decide +kernel
theorem dX12_canon_40 : decode cX12_canon 40 = .ok (.ifCond .ne 5, 3) := by decide +kernel
theorem dX12_canon_43 : decode cX12_canon 43 = .ok (.iconst (-1), 1) := by decide +kernel
theorem dX12_canon_44 : decode cX12_canon 44 = .ok (.ireturn, 1) := by decide +kernel
theorem dX12_canon_45 : decode cX12_canon 45 = .ok (.aload_n 0, 1) := by decide +kernel
theorem dX12_canon_46 : decode cX12_canon 46 = .ok (.getfield 19, 3) := by decide +kernel
theorem dX12_canon_49 : decode cX12_canon 49 = .ok (.getfield 229, 3) := by decide +kernel
theorem dX12_canon_52 : decode cX12_canon 52 = .ok (.iload_n 1, 1) := by decide +kernel
theorem dX12_canon_53 : decode cX12_canon 53 = .ok (.aaload, 1) := by decide +kernel
theorem dX12_canon_54 : decode cX12_canon 54 = .ok (.astore 6, 2) := by decide +kernel
theorem dX12_canon_56 : decode cX12_canon 56 = .ok (.aload_n 0, 1) := by decide +kernel
theorem dX12_canon_57 : decode cX12_canon 57 = .ok (.getfield 19, 3) := by decide +kernel
theorem dX12_canon_60 : decode cX12_canon 60 = .ok (.getfield 229, 3) := by decide +kernel
theorem dX12_canon_63 : decode cX12_canon 63 = .ok (.iload_n 2, 1) := by decide +kernel
theorem dX12_canon_64 : decode cX12_canon 64 = .ok (.aaload, 1) := by decide +kernel
theorem dX12_canon_65 : decode cX12_canon 65 = .ok (.astore 7, 2) := by decide +kernel
theorem dX12_canon_67 : decode cX12_canon 67 = .ok (.iload 4, 2) := by decide +kernel
theorem dX12_canon_69 : decode cX12_canon 69 = .ok (.ifCond .eq 12, 3) := by decide +kernel
theorem dX12_canon_72 : decode cX12_canon 72 = .ok (.aload 6, 2) := by decide +kernel
theorem dX12_canon_74 : decode cX12_canon 74 = .ok (.aload 7, 2) := by decide +kernel
theorem dX12_canon_76 : decode cX12_canon 76 = .ok (.iload_n 3, 1) := by decide +kernel
theorem dX12_canon_77 : decode cX12_canon 77 = .ok (.invokestatic 275, 3) := by decide +kernel
theorem dX12_canon_80 : decode cX12_canon 80 = .ok (.ireturn, 1) := by decide +kernel
theorem dX12_canon_81 : decode cX12_canon 81 = .ok (.iconst 0, 1) := by decide +kernel
theorem dX12_canon_82 : decode cX12_canon 82 = .ok (.istore 8, 2) := by decide +kernel
theorem dX12_canon_84 : decode cX12_canon 84 = .ok (.aload 6, 2) := by decide +kernel
theorem dX12_canon_86 : decode cX12_canon 86 = .ok (.aload 7, 2) := by decide +kernel
theorem dX12_canon_88 : decode cX12_canon 88 = .ok (.iconst 0, 1) := by decide +kernel
theorem dX12_canon_89 : decode cX12_canon 89 = .ok (.invokestatic 275, 3) := by decide +kernel
theorem dX12_canon_92 : decode cX12_canon 92 = .ok (.istore 9, 2) := by decide +kernel
theorem dX12_canon_94 : decode cX12_canon 94 = .ok (.iconst 1, 1) := by decide +kernel
theorem dX12_canon_95 : decode cX12_canon 95 = .ok (.istore 10, 2) := by decide +kernel
theorem dX12_canon_97 : decode cX12_canon 97 = .ok (.iload 10, 2) := by decide +kernel
theorem dX12_canon_99 : decode cX12_canon 99 = .ok (.bipush 60, 2) := by decide +kernel
theorem dX12_canon_101 : decode cX12_canon 101 = .ok (.if_icmp .ge 35, 3) := by decide +kernel
theorem dX12_canon_104 : decode cX12_canon 104 = .ok (.aload 6, 2) := by decide +kernel
theorem dX12_canon_106 : decode cX12_canon 106 = .ok (.aload 7, 2) := by decide +kernel
theorem dX12_canon_108 : decode cX12_canon 108 = .ok (.iload 10, 2) := by decide +kernel
theorem dX12_canon_110 : decode cX12_canon 110 = .ok (.invokestatic 275, 3) := by decide +kernel
theorem dX12_canon_113 : decode cX12_canon 113 = .ok (.istore 11, 2) := by decide +kernel
theorem dX12_canon_115 : decode cX12_canon 115 = .ok (.iload 11, 2) := by decide +kernel
theorem dX12_canon_117 : decode cX12_canon 117 = .ok (.iload 9, 2) := by decide +kernel
theorem dX12_canon_119 : decode cX12_canon 119 = .ok (.if_icmp .ge 11, 3) := by decide +kernel
theorem dX12_canon_122 : decode cX12_canon 122 = .ok (.iload 11, 2) := by decide +kernel
theorem dX12_canon_124 : decode cX12_canon 124 = .ok (.istore 9, 2) := by decide +kernel
theorem dX12_canon_126 : decode cX12_canon 126 = .ok (.iload 10, 2) := by decide +kernel
theorem dX12_canon_128 : decode cX12_canon 128 = .ok (.istore 8, 2) := by decide +kernel
theorem dX12_canon_130 : decode cX12_canon 130 = .ok (.iinc 10 1, 3) := by decide +kernel
theorem dX12_canon_133 : decode cX12_canon 133 = .ok (.goto (-36), 3) := by decide +kernel
theorem dX12_canon_136 : decode cX12_canon 136 = .ok (.iload_n 3, 1) := by decide +kernel
theorem dX12_canon_137 : decode cX12_canon 137 = .ok (.bipush 100, 2) := by decide +kernel
theorem dX12_canon_139 : decode cX12_canon 139 = .ok (.if_icmp .ne 8, 3) := by decide +kernel
theorem dX12_canon_142 : decode cX12_canon 142 = .ok (.iload 8, 2) := by decide +kernel
theorem dX12_canon_144 : decode cX12_canon 144 = .ok (.goto 5, 3) := by decide +kernel
theorem dX12_canon_147 : decode cX12_canon 147 = .ok (.iload 9, 2) := by decide +kernel
theorem dX12_canon_149 : decode cX12_canon 149 = .ok (.ireturn, 1) := by decide +kernel
theorem dX12_attacks_0 : decode cX12_attacks 0 = .ok (.iload_n 1, 1) := by decide +kernel
theorem dX12_attacks_1 : decode cX12_attacks 1 = .ok (.iconst 0, 1) := by decide +kernel
theorem dX12_attacks_2 : decode cX12_attacks 2 = .ok (.bipush 59, 2) := by decide +kernel
theorem dX12_attacks_4 : decode cX12_attacks 4 = .ok (.invokestatic 96, 3) := by decide +kernel
theorem dX12_attacks_7 : decode cX12_attacks 7 = .ok (.ifCond .ne 5, 3) := by decide +kernel
theorem dX12_attacks_10 : decode cX12_attacks 10 = .ok (.iconst (-1), 1) := by decide +kernel
theorem dX12_attacks_11 : decode cX12_attacks 11 = .ok (.ireturn, 1) := by decide +kernel
theorem dX12_attacks_12 : decode cX12_attacks 12 = .ok (.iconst 0, 1) := by decide +kernel
theorem dX12_attacks_13 : decode cX12_attacks 13 = .ok (.istore_n 2, 1) := by decide +kernel
theorem dX12_attacks_14 : decode cX12_attacks 14 = .ok (.iconst 0, 1) := by decide +kernel
theorem dX12_attacks_15 : decode cX12_attacks 15 = .ok (.istore_n 3, 1) := by decide +kernel
theorem dX12_attacks_16 : decode cX12_attacks 16 = .ok (.iload_n 3, 1) := by decide +kernel
theorem dX12_attacks_17 : decode cX12_attacks 17 = .ok (.bipush 8, 2) := by decide +kernel
theorem dX12_attacks_19 : decode cX12_attacks 19 = .ok (.if_icmp .ge 39, 3) := by decide +kernel
theorem dX12_attacks_22 : decode cX12_attacks 22 = .ok (.aload_n 0, 1) := by decide +kernel
theorem dX12_attacks_23 : decode cX12_attacks 23 = .ok (.getfield 61, 3) := by decide +kernel
theorem dX12_attacks_26 : decode cX12_attacks 26 = .ok (.iload_n 3, 1) := by decide +kernel
theorem dX12_attacks_27 : decode cX12_attacks 27 = .ok (.invokevirtual 186, 3) := by decide +kernel
theorem dX12_attacks_30 : decode cX12_attacks 30 = .ok (.ifCond .eq 22, 3) := by decide +kernel
theorem dX12_attacks_33 : decode cX12_attacks 33 = .ok (.aload_n 0, 1) := by decide +kernel
theorem dX12_attacks_34 : decode cX12_attacks 34 = .ok (.getfield 19, 3) := by decide +kernel
theorem dX12_attacks_37 : decode cX12_attacks 37 = .ok (.getfield 229, 3) := by decide +kernel
theorem dX12_attacks_40 : decode cX12_attacks 40 = .ok (.iload_n 3, 1) := by decide +kernel
theorem dX12_attacks_41 : decode cX12_attacks 41 = .ok (.aaload, 1) := by decide +kernel
theorem dX12_attacks_42 : decode cX12_attacks 42 = .ok (.iload_n 1, 1) := by decide +kernel
theorem dX12_attacks_43 : decode cX12_attacks 43 = .ok (.invokevirtual 279, 3) := by decide +kernel
theorem dX12_attacks_46 : decode cX12_attacks 46 = .ok (.ifCond .eq 6, 3) := by decide +kernel
theorem dX12_attacks_49 : decode cX12_attacks 49 = .ok (.iinc 2 1, 3) := by decide +kernel
theorem dX12_attacks_52 : decode cX12_attacks 52 = .ok (.iinc 3 1, 3) := by decide +kernel
theorem dX12_attacks_55 : decode cX12_attacks 55 = .ok (.goto (-39), 3) := by decide +kernel
theorem dX12_attacks_58 : decode cX12_attacks 58 = .ok (.iload_n 2, 1) := by decide +kernel
theorem dX12_attacks_59 : decode cX12_attacks 59 = .ok (.ireturn, 1) := by decide +kernel
theorem dX12_returns_0 : decode cX12_returns 0 = .ok (.iload_n 1, 1) := by decide +kernel
theorem dX12_returns_1 : decode cX12_returns 1 = .ok (.invokestatic 92, 3) := by decide +kernel
theorem dX12_returns_4 : decode cX12_returns 4 = .ok (.ifCond .eq 19, 3) := by decide +kernel
theorem dX12_returns_7 : decode cX12_returns 7 = .ok (.iload_n 2, 1) := by decide +kernel
theorem dX12_returns_8 : decode cX12_returns 8 = .ok (.invokestatic 92, 3) := by decide +kernel
theorem dX12_returns_11 : decode cX12_returns 11 = .ok (.ifCond .eq 12, 3) := by decide +kernel
theorem dX12_returns_14 : decode cX12_returns 14 = .ok (.iload_n 3, 1) := by decide +kernel
theorem dX12_returns_15 : decode cX12_returns 15 = .ok (.iconst 0, 1) := by decide +kernel
theorem dX12_returns_16 : decode cX12_returns 16 = .ok (.iconst 3, 1) := by decide +kernel
theorem dX12_returns_17 : decode cX12_returns 17 = .ok (.invokestatic 96, 3) := by decide +kernel
theorem dX12_returns_20 : decode cX12_returns 20 = .ok (.ifCond .ne 7, 3) := by decide +kernel
theorem dX12_returns_23 : decode cX12_returns 23 = .ok (.sipush (-1000), 3) := by decide +kernel
theorem dX12_returns_26 : decode cX12_returns 26 = .ok (.ireturn, 1) := by decide +kernel
theorem dX12_returns_27 : decode cX12_returns 27 = .ok (.aload_n 0, 1) := by decide +kernel
theorem dX12_returns_28 : decode cX12_returns 28 = .ok (.getfield 81, 3) := by decide +kernel
theorem dX12_returns_31 : decode cX12_returns 31 = .ok (.aload_n 0, 1) := by decide +kernel
theorem dX12_returns_32 : decode cX12_returns 32 = .ok (.getfield 19, 3) := by decide +kernel
theorem dX12_returns_35 : decode cX12_returns 35 = .ok (.getfield 229, 3) := by decide +kernel
theorem dX12_returns_38 : decode cX12_returns 38 = .ok (.iload_n 1, 1) := by decide +kernel
theorem dX12_returns_39 : decode cX12_returns 39 = .ok (.aaload, 1) := by decide +kernel
theorem dX12_returns_40 : decode cX12_returns 40 = .ok (.aload_n 0, 1) := by decide +kernel
theorem dX12_returns_41 : decode cX12_returns 41 = .ok (.getfield 19, 3) := by decide +kernel
theorem dX12_returns_44 : decode cX12_returns 44 = .ok (.getfield 229, 3) := by decide +kernel
theorem dX12_returns_47 : decode cX12_returns 47 = .ok (.iload_n 2, 1) := by decide +kernel
theorem dX12_returns_48 : decode cX12_returns 48 = .ok (.aaload, 1) := by decide +kernel
theorem dX12_returns_49 : decode cX12_returns 49 = .ok (.invokevirtual 282, 3) := by decide +kernel
theorem dX12_returns_52 : decode cX12_returns 52 = .ok (.iload_n 3, 1) := by decide +kernel
theorem dX12_returns_53 : decode cX12_returns 53 = .ok (.ifCond .ne 11, 3) := by decide +kernel
theorem dX12_returns_56 : decode cX12_returns 56 = .ok (.aload_n 0, 1) := by decide +kernel
theorem dX12_returns_57 : decode cX12_returns 57 = .ok (.getfield 81, 3) := by decide +kernel
theorem dX12_returns_60 : decode cX12_returns 60 = .ok (.getfield 286, 3) := by decide +kernel
theorem dX12_returns_63 : decode cX12_returns 63 = .ok (.ireturn, 1) := by decide +kernel
theorem dX12_returns_64 : decode cX12_returns 64 = .ok (.aload_n 0, 1) := by decide +kernel
theorem dX12_returns_65 : decode cX12_returns 65 = .ok (.getfield 81, 3) := by decide +kernel
theorem dX12_returns_68 : decode cX12_returns 68 = .ok (.getfield 286, 3) := by decide +kernel
theorem dX12_returns_71 : decode cX12_returns 71 = .ok (.ifCond .ne 7, 3) := by decide +kernel
theorem dX12_returns_74 : decode cX12_returns 74 = .ok (.sipush (-2000), 3) := by decide +kernel
theorem dX12_returns_77 : decode cX12_returns 77 = .ok (.ireturn, 1) := by decide +kernel
theorem dX12_returns_78 : decode cX12_returns 78 = .ok (.iload_n 3, 1) := by decide +kernel
theorem dX12_returns_79 : decode cX12_returns 79 = .ok (.lookupswitch 41 #[(1, 25), (2, 33)], 25) := by decide +kernel
theorem dX12_returns_104 : decode cX12_returns 104 = .ok (.aload_n 0, 1) := by decide +kernel
theorem dX12_returns_105 : decode cX12_returns 105 = .ok (.getfield 81, 3) := by decide +kernel
theorem dX12_returns_108 : decode cX12_returns 108 = .ok (.getfield 289, 3) := by decide +kernel
theorem dX12_returns_111 : decode cX12_returns 111 = .ok (.ireturn, 1) := by decide +kernel
theorem dX12_returns_112 : decode cX12_returns 112 = .ok (.aload_n 0, 1) := by decide +kernel
theorem dX12_returns_113 : decode cX12_returns 113 = .ok (.getfield 81, 3) := by decide +kernel
theorem dX12_returns_116 : decode cX12_returns 116 = .ok (.getfield 292, 3) := by decide +kernel
theorem dX12_returns_119 : decode cX12_returns 119 = .ok (.ireturn, 1) := by decide +kernel
theorem dX12_returns_120 : decode cX12_returns 120 = .ok (.aload_n 0, 1) := by decide +kernel
theorem dX12_returns_121 : decode cX12_returns 121 = .ok (.getfield 81, 3) := by decide +kernel
theorem dX12_returns_124 : decode cX12_returns 124 = .ok (.getfield 295, 3) := by decide +kernel
theorem dX12_returns_127 : decode cX12_returns 127 = .ok (.ireturn, 1) := by decide +kernel
theorem dX12_backwards_0 : decode cX12_backwards 0 = .ok (.iload_n 1, 1) := by decide +kernel
theorem dX12_backwards_1 : decode cX12_backwards 1 = .ok (.invokestatic 92, 3) := by decide +kernel
theorem dX12_backwards_4 : decode cX12_backwards 4 = .ok (.ifCond .eq 10, 3) := by decide +kernel
theorem dX12_backwards_7 : decode cX12_backwards 7 = .ok (.iload_n 2, 1) := by decide +kernel
theorem dX12_backwards_8 : decode cX12_backwards 8 = .ok (.invokestatic 92, 3) := by decide +kernel
theorem dX12_backwards_11 : decode cX12_backwards 11 = .ok (.ifCond .ne 5, 3) := by decide +kernel
theorem dX12_backwards_14 : decode cX12_backwards 14 = .ok (.iconst (-1), 1) := by decide +kernel
theorem dX12_backwards_15 : decode cX12_backwards 15 = .ok (.ireturn, 1) := by decide +kernel
theorem dX12_backwards_16 : decode cX12_backwards 16 = .ok (.aload_n 0, 1) := by decide +kernel
theorem dX12_backwards_17 : decode cX12_backwards 17 = .ok (.getfield 81, 3) := by decide +kernel
theorem dX12_backwards_20 : decode cX12_backwards 20 = .ok (.aload_n 0, 1) := by decide +kernel
theorem dX12_backwards_21 : decode cX12_backwards 21 = .ok (.getfield 19, 3) := by decide +kernel
theorem dX12_backwards_24 : decode cX12_backwards 24 = .ok (.getfield 229, 3) := by decide +kernel
theorem dX12_backwards_27 : decode cX12_backwards 27 = .ok (.iload_n 1, 1) := by decide +kernel
theorem dX12_backwards_28 : decode cX12_backwards 28 = .ok (.aaload, 1) := by decide +kernel
theorem dX12_backwards_29 : decode cX12_backwards 29 = .ok (.aload_n 0, 1) := by decide +kernel
theorem dX12_backwards_30 : decode cX12_backwards 30 = .ok (.getfield 19, 3) := by decide +kernel
theorem dX12_backwards_33 : decode cX12_backwards 33 = .ok (.getfield 229, 3) := by decide +kernel
theorem dX12_backwards_36 : decode cX12_backwards 36 = .ok (.iload_n 2, 1) := by decide +kernel
theorem dX12_backwards_37 : decode cX12_backwards 37 = .ok (.aaload, 1) := by decide +kernel
theorem dX12_backwards_38 : decode cX12_backwards 38 = .ok (.invokevirtual 298, 3) := by decide +kernel
theorem dX12_backwards_41 : decode cX12_backwards 41 = .ok (.ifCond .eq 7, 3) := by decide +kernel
theorem dX12_backwards_44 : decode cX12_backwards 44 = .ok (.iconst 1, 1) := by decide +kernel
theorem dX12_backwards_45 : decode cX12_backwards 45 = .ok (.goto 4, 3) := by decide +kernel
theorem dX12_backwards_48 : decode cX12_backwards 48 = .ok (.iconst 0, 1) := by decide +kernel
theorem dX12_backwards_49 : decode cX12_backwards 49 = .ok (.ireturn, 1) := by decide +kernel
theorem dX12_range_0 : decode cX12_range 0 = .ok (.iload_n 1, 1) := by decide +kernel
theorem dX12_range_1 : decode cX12_range 1 = .ok (.invokestatic 92, 3) := by decide +kernel
theorem dX12_range_4 : decode cX12_range 4 = .ok (.ifCond .ne 5, 3) := by decide +kernel
theorem dX12_range_7 : decode cX12_range 7 = .ok (.iconst (-1), 1) := by decide +kernel
theorem dX12_range_8 : decode cX12_range 8 = .ok (.ireturn, 1) := by decide +kernel
theorem dX12_range_9 : decode cX12_range 9 = .ok (.aload_n 0, 1) := by decide +kernel
theorem dX12_range_10 : decode cX12_range 10 = .ok (.getfield 19, 3) := by decide +kernel
theorem dX12_range_13 : decode cX12_range 13 = .ok (.getfield 229, 3) := by decide +kernel
theorem dX12_range_16 : decode cX12_range 16 = .ok (.iload_n 1, 1) := by decide +kernel
theorem dX12_range_17 : decode cX12_range 17 = .ok (.aaload, 1) := by decide +kernel
theorem dX12_range_18 : decode cX12_range 18 = .ok (.astore_n 2, 1) := by decide +kernel
theorem dX12_range_19 : decode cX12_range 19 = .ok (.iconst 0, 1) := by decide +kernel
theorem dX12_range_20 : decode cX12_range 20 = .ok (.istore_n 3, 1) := by decide +kernel
theorem dX12_range_21 : decode cX12_range 21 = .ok (.bipush 8, 2) := by decide +kernel
theorem dX12_range_23 : decode cX12_range 23 = .ok (.istore 4, 2) := by decide +kernel
theorem dX12_range_25 : decode cX12_range 25 = .ok (.iconst 0, 1) := by decide +kernel
theorem dX12_range_26 : decode cX12_range 26 = .ok (.istore 5, 2) := by decide +kernel
theorem dX12_range_28 : decode cX12_range 28 = .ok (.iload 5, 2) := by decide +kernel
theorem dX12_range_30 : decode cX12_range 30 = .ok (.aload_n 2, 1) := by decide +kernel
theorem dX12_range_31 : decode cX12_range 31 = .ok (.invokevirtual 233, 3) := by decide +kernel
theorem dX12_range_34 : decode cX12_range 34 = .ok (.if_icmp .ge 38, 3) := by decide +kernel
theorem dX12_range_37 : decode cX12_range 37 = .ok (.aload_n 2, 1) := by decide +kernel
theorem dX12_range_38 : decode cX12_range 38 = .ok (.iload 5, 2) := by decide +kernel
theorem dX12_range_40 : decode cX12_range 40 = .ok (.invokevirtual 234, 3) := by decide +kernel
theorem dX12_range_43 : decode cX12_range 43 = .ok (.istore 6, 2) := by decide +kernel
theorem dX12_range_45 : decode cX12_range 45 = .ok (.iload 6, 2) := by decide +kernel
theorem dX12_range_47 : decode cX12_range 47 = .ok (.ifCond .eq 19, 3) := by decide +kernel
theorem dX12_range_50 : decode cX12_range 50 = .ok (.iload_n 3, 1) := by decide +kernel
theorem dX12_range_51 : decode cX12_range 51 = .ok (.iload 6, 2) := by decide +kernel
theorem dX12_range_53 : decode cX12_range 53 = .ok (.invokestatic 256, 3) := by decide +kernel
theorem dX12_range_56 : decode cX12_range 56 = .ok (.istore_n 3, 1) := by decide +kernel
theorem dX12_range_57 : decode cX12_range 57 = .ok (.iload 4, 2) := by decide +kernel
theorem dX12_range_59 : decode cX12_range 59 = .ok (.iload 6, 2) := by decide +kernel
theorem dX12_range_61 : decode cX12_range 61 = .ok (.invokestatic 302, 3) := by decide +kernel
theorem dX12_range_64 : decode cX12_range 64 = .ok (.istore 4, 2) := by decide +kernel
theorem dX12_range_66 : decode cX12_range 66 = .ok (.iinc 5 1, 3) := by decide +kernel
theorem dX12_range_69 : decode cX12_range 69 = .ok (.goto (-41), 3) := by decide +kernel
theorem dX12_range_72 : decode cX12_range 72 = .ok (.iload_n 3, 1) := by decide +kernel
theorem dX12_range_73 : decode cX12_range 73 = .ok (.ifCond .ne 8, 3) := by decide +kernel
theorem dX12_range_76 : decode cX12_range 76 = .ok (.bipush (-2), 2) := by decide +kernel
theorem dX12_range_78 : decode cX12_range 78 = .ok (.goto 7, 3) := by decide +kernel
theorem dX12_range_81 : decode cX12_range 81 = .ok (.iload_n 3, 1) := by decide +kernel
theorem dX12_range_82 : decode cX12_range 82 = .ok (.iload 4, 2) := by decide +kernel
theorem dX12_range_84 : decode cX12_range 84 = .ok (.isub, 1) := by decide +kernel
theorem dX12_range_85 : decode cX12_range 85 = .ok (.ireturn, 1) := by decide +kernel
theorem dX12_key_0 : decode cX12_key 0 = .ok (.iload_n 1, 1) := by decide +kernel
theorem dX12_key_1 : decode cX12_key 1 = .ok (.invokestatic 92, 3) := by decide +kernel
theorem dX12_key_4 : decode cX12_key 4 = .ok (.ifCond .eq 12, 3) := by decide +kernel
theorem dX12_key_7 : decode cX12_key 7 = .ok (.iload_n 2, 1) := by decide +kernel
theorem dX12_key_8 : decode cX12_key 8 = .ok (.iconst 0, 1) := by decide +kernel
theorem dX12_key_9 : decode cX12_key 9 = .ok (.iconst 1, 1) := by decide +kernel
theorem dX12_key_10 : decode cX12_key 10 = .ok (.invokestatic 96, 3) := by decide +kernel
theorem dX12_key_13 : decode cX12_key 13 = .ok (.ifCond .ne 5, 3) := by decide +kernel
theorem dX12_key_16 : decode cX12_key 16 = .ok (.iconst (-1), 1) := by decide +kernel
theorem dX12_key_17 : decode cX12_key 17 = .ok (.ireturn, 1) := by decide +kernel
theorem dX12_key_18 : decode cX12_key 18 = .ok (.bipush (-2), 2) := by decide +kernel
theorem dX12_key_20 : decode cX12_key 20 = .ok (.istore_n 3, 1) := by decide +kernel
theorem dX12_key_21 : decode cX12_key 21 = .ok (.iconst 0, 1) := by decide +kernel
theorem dX12_key_22 : decode cX12_key 22 = .ok (.istore 4, 2) := by decide +kernel
theorem dX12_key_24 : decode cX12_key 24 = .ok (.iconst 1, 1) := by decide +kernel
theorem dX12_key_25 : decode cX12_key 25 = .ok (.istore 5, 2) := by decide +kernel
theorem dX12_key_27 : decode cX12_key 27 = .ok (.iload 5, 2) := by decide +kernel
theorem dX12_key_29 : decode cX12_key 29 = .ok (.bipush 7, 2) := by decide +kernel
theorem dX12_key_31 : decode cX12_key 31 = .ok (.if_icmp .gt 39, 3) := by decide +kernel
theorem dX12_key_34 : decode cX12_key 34 = .ok (.aload_n 0, 1) := by decide +kernel
theorem dX12_key_35 : decode cX12_key 35 = .ok (.getfield 19, 3) := by decide +kernel
theorem dX12_key_38 : decode cX12_key 38 = .ok (.getfield 229, 3) := by decide +kernel
theorem dX12_key_41 : decode cX12_key 41 = .ok (.iload_n 1, 1) := by decide +kernel
theorem dX12_key_42 : decode cX12_key 42 = .ok (.aaload, 1) := by decide +kernel
theorem dX12_key_43 : decode cX12_key 43 = .ok (.iload 5, 2) := by decide +kernel
theorem dX12_key_45 : decode cX12_key 45 = .ok (.invokevirtual 305, 3) := by decide +kernel
theorem dX12_key_48 : decode cX12_key 48 = .ok (.istore 6, 2) := by decide +kernel
theorem dX12_key_50 : decode cX12_key 50 = .ok (.iload 6, 2) := by decide +kernel
theorem dX12_key_52 : decode cX12_key 52 = .ok (.iload 4, 2) := by decide +kernel
theorem dX12_key_54 : decode cX12_key 54 = .ok (.if_icmp .le 10, 3) := by decide +kernel
theorem dX12_key_57 : decode cX12_key 57 = .ok (.iload 6, 2) := by decide +kernel
theorem dX12_key_59 : decode cX12_key 59 = .ok (.istore 4, 2) := by decide +kernel
theorem dX12_key_61 : decode cX12_key 61 = .ok (.iload 5, 2) := by decide +kernel
theorem dX12_key_63 : decode cX12_key 63 = .ok (.istore_n 3, 1) := by decide +kernel
theorem dX12_key_64 : decode cX12_key 64 = .ok (.iinc 5 1, 3) := by decide +kernel
theorem dX12_key_67 : decode cX12_key 67 = .ok (.goto (-40), 3) := by decide +kernel
theorem dX12_key_70 : decode cX12_key 70 = .ok (.iload_n 2, 1) := by decide +kernel
theorem dX12_key_71 : decode cX12_key 71 = .ok (.ifCond .ne 7, 3) := by decide +kernel
theorem dX12_key_74 : decode cX12_key 74 = .ok (.iload_n 3, 1) := by decide +kernel
theorem dX12_key_75 : decode cX12_key 75 = .ok (.goto 5, 3) := by decide +kernel
theorem dX12_key_78 : decode cX12_key 78 = .ok (.iload 4, 2) := by decide +kernel
theorem dX12_key_80 : decode cX12_key 80 = .ok (.ireturn, 1) := by decide +kernel
theorem dX12_tune_0 : decode cX12_tune 0 = .ok (.iload_n 1, 1) := by decide +kernel
theorem dX12_tune_1 : decode cX12_tune 1 = .ok (.invokestatic 92, 3) := by decide +kernel
theorem dX12_tune_4 : decode cX12_tune 4 = .ok (.ifCond .eq 7, 3) := by decide +kernel
theorem dX12_tune_7 : decode cX12_tune 7 = .ok (.iload_n 2, 1) := by decide +kernel
theorem dX12_tune_8 : decode cX12_tune 8 = .ok (.ifCond .ge 5, 3) := by decide +kernel
theorem dX12_tune_11 : decode cX12_tune 11 = .ok (.iconst (-1), 1) := by decide +kernel
theorem dX12_tune_12 : decode cX12_tune 12 = .ok (.ireturn, 1) := by decide +kernel
theorem dX12_tune_13 : decode cX12_tune 13 = .ok (.aload_n 0, 1) := by decide +kernel
theorem dX12_tune_14 : decode cX12_tune 14 = .ok (.getfield 19, 3) := by decide +kernel
theorem dX12_tune_17 : decode cX12_tune 17 = .ok (.getfield 229, 3) := by decide +kernel
theorem dX12_tune_20 : decode cX12_tune 20 = .ok (.iload_n 1, 1) := by decide +kernel
theorem dX12_tune_21 : decode cX12_tune 21 = .ok (.aaload, 1) := by decide +kernel
theorem dX12_tune_22 : decode cX12_tune 22 = .ok (.astore_n 3, 1) := by decide +kernel
theorem dX12_tune_23 : decode cX12_tune 23 = .ok (.iconst 0, 1) := by decide +kernel
theorem dX12_tune_24 : decode cX12_tune 24 = .ok (.istore 4, 2) := by decide +kernel
theorem dX12_tune_26 : decode cX12_tune 26 = .ok (.iconst 0, 1) := by decide +kernel
theorem dX12_tune_27 : decode cX12_tune 27 = .ok (.istore 5, 2) := by decide +kernel
theorem dX12_tune_29 : decode cX12_tune 29 = .ok (.iload 5, 2) := by decide +kernel
theorem dX12_tune_31 : decode cX12_tune 31 = .ok (.aload_n 3, 1) := by decide +kernel
theorem dX12_tune_32 : decode cX12_tune 32 = .ok (.invokevirtual 233, 3) := by decide +kernel
theorem dX12_tune_35 : decode cX12_tune 35 = .ok (.if_icmp .ge 34, 3) := by decide +kernel
theorem dX12_tune_38 : decode cX12_tune 38 = .ok (.aload_n 3, 1) := by decide +kernel
theorem dX12_tune_39 : decode cX12_tune 39 = .ok (.iload 5, 2) := by decide +kernel
theorem dX12_tune_41 : decode cX12_tune 41 = .ok (.invokevirtual 279, 3) := by decide +kernel
theorem dX12_tune_44 : decode cX12_tune 44 = .ok (.ifCond .eq 19, 3) := by decide +kernel
theorem dX12_tune_47 : decode cX12_tune 47 = .ok (.iload 4, 2) := by decide +kernel
theorem dX12_tune_49 : decode cX12_tune 49 = .ok (.iload_n 2, 1) := by decide +kernel
theorem dX12_tune_50 : decode cX12_tune 50 = .ok (.if_icmp .ne 10, 3) := by decide +kernel
theorem dX12_tune_53 : decode cX12_tune 53 = .ok (.aload_n 3, 1) := by decide +kernel
theorem dX12_tune_54 : decode cX12_tune 54 = .ok (.iload 5, 2) := by decide +kernel
theorem dX12_tune_56 : decode cX12_tune 56 = .ok (.invokevirtual 234, 3) := by decide +kernel
theorem dX12_tune_59 : decode cX12_tune 59 = .ok (.ireturn, 1) := by decide +kernel
theorem dX12_tune_60 : decode cX12_tune 60 = .ok (.iinc 4 1, 3) := by decide +kernel
theorem dX12_tune_63 : decode cX12_tune 63 = .ok (.iinc 5 1, 3) := by decide +kernel
theorem dX12_tune_66 : decode cX12_tune 66 = .ok (.goto (-37), 3) := by decide +kernel
theorem dX12_tune_69 : decode cX12_tune 69 = .ok (.bipush (-2), 2) := by decide +kernel
theorem dX12_tune_71 : decode cX12_tune 71 = .ok (.ireturn, 1) := by decide +kernel
theorem dX12_breaths_0 : decode cX12_breaths 0 = .ok (.iload_n 1, 1) := by decide +kernel
theorem dX12_breaths_1 : decode cX12_breaths 1 = .ok (.invokestatic 92, 3) := by decide +kernel
theorem dX12_breaths_4 : decode cX12_breaths 4 = .ok (.ifCond .eq 29, 3) := by decide +kernel
theorem dX12_breaths_7 : decode cX12_breaths 7 = .ok (.iload_n 2, 1) := by decide +kernel
theorem dX12_breaths_8 : decode cX12_breaths 8 = .ok (.iconst 1, 1) := by decide +kernel
theorem dX12_breaths_9 : decode cX12_breaths 9 = .ok (.bipush 20, 2) := by decide +kernel
theorem dX12_breaths_11 : decode cX12_breaths 11 = .ok (.invokestatic 96, 3) := by decide +kernel
theorem dX12_breaths_14 : decode cX12_breaths 14 = .ok (.ifCond .eq 19, 3) := by decide +kernel
theorem dX12_breaths_17 : decode cX12_breaths 17 = .ok (.iload_n 3, 1) := by decide +kernel
theorem dX12_breaths_18 : decode cX12_breaths 18 = .ok (.iconst 0, 1) := by decide +kernel
theorem dX12_breaths_19 : decode cX12_breaths 19 = .ok (.bipush 59, 2) := by decide +kernel
theorem dX12_breaths_21 : decode cX12_breaths 21 = .ok (.invokestatic 96, 3) := by decide +kernel
theorem dX12_breaths_24 : decode cX12_breaths 24 = .ok (.ifCond .ne 11, 3) := by decide +kernel
theorem dX12_breaths_27 : decode cX12_breaths 27 = .ok (.iload_n 3, 1) := by decide +kernel
theorem dX12_breaths_28 : decode cX12_breaths 28 = .ok (.bipush 100, 2) := by decide +kernel
theorem dX12_breaths_30 : decode cX12_breaths 30 = .ok (.if_icmp .eq 5, 3) := by decide +kernel
theorem dX12_breaths_33 : decode cX12_breaths 33 = .ok (.iconst (-1), 1) := by decide +kernel
theorem dX12_breaths_34 : decode cX12_breaths 34 = .ok (.ireturn, 1) := by decide +kernel
theorem dX12_breaths_35 : decode cX12_breaths 35 = .ok (.aload_n 0, 1) := by decide +kernel
theorem dX12_breaths_36 : decode cX12_breaths 36 = .ok (.getfield 88, 3) := by decide +kernel
theorem dX12_breaths_39 : decode cX12_breaths 39 = .ok (.aload_n 0, 1) := by decide +kernel
theorem dX12_breaths_40 : decode cX12_breaths 40 = .ok (.getfield 19, 3) := by decide +kernel
theorem dX12_breaths_43 : decode cX12_breaths 43 = .ok (.getfield 229, 3) := by decide +kernel
theorem dX12_breaths_46 : decode cX12_breaths 46 = .ok (.iload_n 1, 1) := by decide +kernel
theorem dX12_breaths_47 : decode cX12_breaths 47 = .ok (.aaload, 1) := by decide +kernel
theorem dX12_breaths_48 : decode cX12_breaths 48 = .ok (.iload_n 2, 1) := by decide +kernel
theorem dX12_breaths_49 : decode cX12_breaths 49 = .ok (.invokevirtual 308, 3) := by decide +kernel
theorem dX12_breaths_52 : decode cX12_breaths 52 = .ok (.ifCond .ne 6, 3) := by decide +kernel
theorem dX12_breaths_55 : decode cX12_breaths 55 = .ok (.bipush (-2), 2) := by decide +kernel
theorem dX12_breaths_57 : decode cX12_breaths 57 = .ok (.ireturn, 1) := by decide +kernel
theorem dX12_breaths_58 : decode cX12_breaths 58 = .ok (.iload_n 3, 1) := by decide +kernel
theorem dX12_breaths_59 : decode cX12_breaths 59 = .ok (.bipush 100, 2) := by decide +kernel
theorem dX12_breaths_61 : decode cX12_breaths 61 = .ok (.if_icmp .ne 11, 3) := by decide +kernel
theorem dX12_breaths_64 : decode cX12_breaths 64 = .ok (.aload_n 0, 1) := by decide +kernel
theorem dX12_breaths_65 : decode cX12_breaths 65 = .ok (.getfield 88, 3) := by decide +kernel
theorem dX12_breaths_68 : decode cX12_breaths 68 = .ok (.invokevirtual 312, 3) := by decide +kernel
theorem dX12_breaths_71 : decode cX12_breaths 71 = .ok (.ireturn, 1) := by decide +kernel
theorem dX12_breaths_72 : decode cX12_breaths 72 = .ok (.iload_n 3, 1) := by decide +kernel
theorem dX12_breaths_73 : decode cX12_breaths 73 = .ok (.aload_n 0, 1) := by decide +kernel
theorem dX12_breaths_74 : decode cX12_breaths 74 = .ok (.getfield 88, 3) := by decide +kernel
theorem dX12_breaths_77 : decode cX12_breaths 77 = .ok (.invokevirtual 312, 3) := by decide +kernel
theorem dX12_breaths_80 : decode cX12_breaths 80 = .ok (.if_icmp .ge 14, 3) := by decide +kernel
theorem dX12_breaths_83 : decode cX12_breaths 83 = .ok (.aload_n 0, 1) := by decide +kernel
theorem dX12_breaths_84 : decode cX12_breaths 84 = .ok (.getfield 88, 3) := by decide +kernel
theorem dX12_breaths_87 : decode cX12_breaths 87 = .ok (.iload_n 3, 1) := by decide +kernel
theorem dX12_breaths_88 : decode cX12_breaths 88 = .ok (.invokevirtual 315, 3) := by decide +kernel
theorem dX12_breaths_91 : decode cX12_breaths 91 = .ok (.goto 5, 3) := by decide +kernel
theorem dX12_breaths_94 : decode cX12_breaths 94 = .ok (.bipush (-4), 2) := by decide +kernel
theorem dX12_breaths_96 : decode cX12_breaths 96 = .ok (.ireturn, 1) := by decide +kernel
theorem dX12_clock_0 : decode cX12_clock 0 = .ok (.aload_n 0, 1) := by decide +kernel
theorem dX12_clock_1 : decode cX12_clock 1 = .ok (.getfield 61, 3) := by decide +kernel
theorem dX12_clock_4 : decode cX12_clock 4 = .ok (.iload_n 1, 1) := by decide +kernel
theorem dX12_clock_5 : decode cX12_clock 5 = .ok (.invokevirtual 186, 3) := by decide +kernel
theorem dX12_clock_8 : decode cX12_clock 8 = .ok (.ifCond .eq 14, 3) := by decide +kernel
theorem dX12_clock_11 : decode cX12_clock 11 = .ok (.iload_n 2, 1) := by decide +kernel
theorem dX12_clock_12 : decode cX12_clock 12 = .ok (.iconst 0, 1) := by decide +kernel
theorem dX12_clock_13 : decode cX12_clock 13 = .ok (.ldc_w 318, 3) := by decide +kernel
theorem dX12_clock_16 : decode cX12_clock 16 = .ok (.invokestatic 96, 3) := by decide +kernel
theorem dX12_clock_19 : decode cX12_clock 19 = .ok (.ifCond .ne 5, 3) := by decide +kernel
theorem dX12_clock_22 : decode cX12_clock 22 = .ok (.iconst (-1), 1) := by decide +kernel
theorem dX12_clock_23 : decode cX12_clock 23 = .ok (.ireturn, 1) := by decide +kernel
theorem dX12_clock_24 : decode cX12_clock 24 = .ok (.aload_n 0, 1) := by decide +kernel
theorem dX12_clock_25 : decode cX12_clock 25 = .ok (.getfield 61, 3) := by decide +kernel
theorem dX12_clock_28 : decode cX12_clock 28 = .ok (.getfield 100, 3) := by decide +kernel
theorem dX12_clock_31 : decode cX12_clock 31 = .ok (.iload_n 1, 1) := by decide +kernel
theorem dX12_clock_32 : decode cX12_clock 32 = .ok (.aaload, 1) := by decide +kernel
theorem dX12_clock_33 : decode cX12_clock 33 = .ok (.iload_n 2, 1) := by decide +kernel
theorem dX12_clock_34 : decode cX12_clock 34 = .ok (.invokevirtual 319, 3) := by decide +kernel
theorem dX12_clock_37 : decode cX12_clock 37 = .ok (.ldc_w 322, 3) := by decide +kernel
theorem dX12_clock_40 : decode cX12_clock 40 = .ok (.irem, 1) := by decide +kernel
theorem dX12_clock_41 : decode cX12_clock 41 = .ok (.ireturn, 1) := by decide +kernel
theorem dX12_meet_0 : decode cX12_meet 0 = .ok (.aload_n 0, 1) := by decide +kernel
theorem dX12_meet_1 : decode cX12_meet 1 = .ok (.getfield 61, 3) := by decide +kernel
theorem dX12_meet_4 : decode cX12_meet 4 = .ok (.iload_n 1, 1) := by decide +kernel
theorem dX12_meet_5 : decode cX12_meet 5 = .ok (.invokevirtual 186, 3) := by decide +kernel
theorem dX12_meet_8 : decode cX12_meet 8 = .ok (.ifCond .eq 19, 3) := by decide +kernel
theorem dX12_meet_11 : decode cX12_meet 11 = .ok (.aload_n 0, 1) := by decide +kernel
theorem dX12_meet_12 : decode cX12_meet 12 = .ok (.getfield 61, 3) := by decide +kernel
theorem dX12_meet_15 : decode cX12_meet 15 = .ok (.iload_n 2, 1) := by decide +kernel
theorem dX12_meet_16 : decode cX12_meet 16 = .ok (.invokevirtual 186, 3) := by decide +kernel
theorem dX12_meet_19 : decode cX12_meet 19 = .ok (.ifCond .eq 8, 3) := by decide +kernel
theorem dX12_meet_22 : decode cX12_meet 22 = .ok (.iload_n 1, 1) := by decide +kernel
theorem dX12_meet_23 : decode cX12_meet 23 = .ok (.iload_n 2, 1) := by decide +kernel
theorem dX12_meet_24 : decode cX12_meet 24 = .ok (.if_icmp .ne 5, 3) := by decide +kernel
theorem dX12_meet_27 : decode cX12_meet 27 = .ok (.iconst (-1), 1) := by decide +kernel
theorem dX12_meet_28 : decode cX12_meet 28 = .ok (.ireturn, 1) := by decide +kernel
theorem dX12_meet_29 : decode cX12_meet 29 = .ok (.ldc_w 323, 3) := by decide +kernel
theorem dX12_meet_32 : decode cX12_meet 32 = .ok (.istore_n 3, 1) := by decide +kernel
theorem dX12_meet_33 : decode cX12_meet 33 = .ok (.aload_n 0, 1) := by decide +kernel
theorem dX12_meet_34 : decode cX12_meet 34 = .ok (.getfield 61, 3) := by decide +kernel
theorem dX12_meet_37 : decode cX12_meet 37 = .ok (.getfield 100, 3) := by decide +kernel
theorem dX12_meet_40 : decode cX12_meet 40 = .ok (.iload_n 1, 1) := by decide +kernel
theorem dX12_meet_41 : decode cX12_meet 41 = .ok (.aaload, 1) := by decide +kernel
theorem dX12_meet_42 : decode cX12_meet 42 = .ok (.getfield 110, 3) := by decide +kernel
theorem dX12_meet_45 : decode cX12_meet 45 = .ok (.aload_n 0, 1) := by decide +kernel
theorem dX12_meet_46 : decode cX12_meet 46 = .ok (.getfield 61, 3) := by decide +kernel
theorem dX12_meet_49 : decode cX12_meet 49 = .ok (.getfield 100, 3) := by decide +kernel
theorem dX12_meet_52 : decode cX12_meet 52 = .ok (.iload_n 2, 1) := by decide +kernel
theorem dX12_meet_53 : decode cX12_meet 53 = .ok (.aaload, 1) := by decide +kernel
theorem dX12_meet_54 : decode cX12_meet 54 = .ok (.getfield 110, 3) := by decide +kernel
theorem dX12_meet_57 : decode cX12_meet 57 = .ok (.isub, 1) := by decide +kernel
theorem dX12_meet_58 : decode cX12_meet 58 = .ok (.invokestatic 324, 3) := by decide +kernel
theorem dX12_meet_61 : decode cX12_meet 61 = .ok (.istore 4, 2) := by decide +kernel
theorem dX12_meet_63 : decode cX12_meet 63 = .ok (.iload_n 3, 1) := by decide +kernel
theorem dX12_meet_64 : decode cX12_meet 64 = .ok (.iload 4, 2) := by decide +kernel
theorem dX12_meet_66 : decode cX12_meet 66 = .ok (.invokestatic 327, 3) := by decide +kernel
theorem dX12_meet_69 : decode cX12_meet 69 = .ok (.istore 5, 2) := by decide +kernel
theorem dX12_meet_71 : decode cX12_meet 71 = .ok (.iload 5, 2) := by decide +kernel
theorem dX12_meet_73 : decode cX12_meet 73 = .ok (.iconst 1, 1) := by decide +kernel
theorem dX12_meet_74 : decode cX12_meet 74 = .ok (.if_icmp .ge 7, 3) := by decide +kernel
theorem dX12_meet_77 : decode cX12_meet 77 = .ok (.iconst (-1), 1) := by decide +kernel
theorem dX12_meet_78 : decode cX12_meet 78 = .ok (.goto 7, 3) := by decide +kernel
theorem dX12_meet_81 : decode cX12_meet 81 = .ok (.iload_n 3, 1) := by decide +kernel
theorem dX12_meet_82 : decode cX12_meet 82 = .ok (.iload 5, 2) := by decide +kernel
theorem dX12_meet_84 : decode cX12_meet 84 = .ok (.idiv, 1) := by decide +kernel
theorem dX12_meet_85 : decode cX12_meet 85 = .ok (.ireturn, 1) := by decide +kernel
theorem dX12_agree_0 : decode cX12_agree 0 = .ok (.iload_n 1, 1) := by decide +kernel
theorem dX12_agree_1 : decode cX12_agree 1 = .ok (.iconst 0, 1) := by decide +kernel
theorem dX12_agree_2 : decode cX12_agree 2 = .ok (.ldc_w 318, 3) := by decide +kernel
theorem dX12_agree_5 : decode cX12_agree 5 = .ok (.invokestatic 96, 3) := by decide +kernel
theorem dX12_agree_8 : decode cX12_agree 8 = .ok (.ifCond .eq 23, 3) := by decide +kernel
theorem dX12_agree_11 : decode cX12_agree 11 = .ok (.iload_n 2, 1) := by decide +kernel
theorem dX12_agree_12 : decode cX12_agree 12 = .ok (.iconst 0, 1) := by decide +kernel
theorem dX12_agree_13 : decode cX12_agree 13 = .ok (.sipush 9999, 3) := by decide +kernel
theorem dX12_agree_16 : decode cX12_agree 16 = .ok (.invokestatic 96, 3) := by decide +kernel
theorem dX12_agree_19 : decode cX12_agree 19 = .ok (.ifCond .eq 12, 3) := by decide +kernel
theorem dX12_agree_22 : decode cX12_agree 22 = .ok (.iload_n 3, 1) := by decide +kernel
theorem dX12_agree_23 : decode cX12_agree 23 = .ok (.iconst 0, 1) := by decide +kernel
theorem dX12_agree_24 : decode cX12_agree 24 = .ok (.iconst 1, 1) := by decide +kernel
theorem dX12_agree_25 : decode cX12_agree 25 = .ok (.invokestatic 96, 3) := by decide +kernel
theorem dX12_agree_28 : decode cX12_agree 28 = .ok (.ifCond .ne 5, 3) := by decide +kernel
theorem dX12_agree_31 : decode cX12_agree 31 = .ok (.iconst (-1), 1) := by decide +kernel
theorem dX12_agree_32 : decode cX12_agree 32 = .ok (.ireturn, 1) := by decide +kernel
theorem dX12_agree_33 : decode cX12_agree 33 = .ok (.aload_n 0, 1) := by decide +kernel
theorem dX12_agree_34 : decode cX12_agree 34 = .ok (.getfield 61, 3) := by decide +kernel
theorem dX12_agree_37 : decode cX12_agree 37 = .ok (.invokevirtual 132, 3) := by decide +kernel
theorem dX12_agree_40 : decode cX12_agree 40 = .ok (.istore 4, 2) := by decide +kernel
theorem dX12_agree_42 : decode cX12_agree 42 = .ok (.iconst 0, 1) := by decide +kernel
theorem dX12_agree_43 : decode cX12_agree 43 = .ok (.istore 5, 2) := by decide +kernel
theorem dX12_agree_45 : decode cX12_agree 45 = .ok (.iconst 1, 1) := by decide +kernel
theorem dX12_agree_46 : decode cX12_agree 46 = .ok (.istore 6, 2) := by decide +kernel
theorem dX12_agree_48 : decode cX12_agree 48 = .ok (.iload 6, 2) := by decide +kernel
theorem dX12_agree_50 : decode cX12_agree 50 = .ok (.sipush 256, 3) := by decide +kernel
theorem dX12_agree_53 : decode cX12_agree 53 = .ok (.if_icmp .ge 59, 3) := by decide +kernel
theorem dX12_agree_56 : decode cX12_agree 56 = .ok (.iload 6, 2) := by decide +kernel
theorem dX12_agree_58 : decode cX12_agree 58 = .ok (.invokestatic 136, 3) := by decide +kernel
theorem dX12_agree_61 : decode cX12_agree 61 = .ok (.iload 5, 2) := by decide +kernel
theorem dX12_agree_63 : decode cX12_agree 63 = .ok (.invokestatic 136, 3) := by decide +kernel
theorem dX12_agree_66 : decode cX12_agree 66 = .ok (.if_icmp .le 7, 3) := by decide +kernel
theorem dX12_agree_69 : decode cX12_agree 69 = .ok (.iconst 1, 1) := by decide +kernel
theorem dX12_agree_70 : decode cX12_agree 70 = .ok (.goto 4, 3) := by decide +kernel
theorem dX12_agree_73 : decode cX12_agree 73 = .ok (.iconst 0, 1) := by decide +kernel
theorem dX12_agree_74 : decode cX12_agree 74 = .ok (.istore 7, 2) := by decide +kernel
theorem dX12_agree_76 : decode cX12_agree 76 = .ok (.iload 7, 2) := by decide +kernel
theorem dX12_agree_78 : decode cX12_agree 78 = .ok (.ifCond .eq 28, 3) := by decide +kernel
theorem dX12_agree_81 : decode cX12_agree 81 = .ok (.iload 6, 2) := by decide +kernel
theorem dX12_agree_83 : decode cX12_agree 83 = .ok (.iload 4, 2) := by decide +kernel
theorem dX12_agree_85 : decode cX12_agree 85 = .ok (.iconst (-1), 1) := by decide +kernel
theorem dX12_agree_86 : decode cX12_agree 86 = .ok (.ixor, 1) := by decide +kernel
theorem dX12_agree_87 : decode cX12_agree 87 = .ok (.iand, 1) := by decide +kernel
theorem dX12_agree_88 : decode cX12_agree 88 = .ok (.ifCond .ne 18, 3) := by decide +kernel
theorem dX12_agree_91 : decode cX12_agree 91 = .ok (.aload_n 0, 1) := by decide +kernel
theorem dX12_agree_92 : decode cX12_agree 92 = .ok (.iload 6, 2) := by decide +kernel
theorem dX12_agree_94 : decode cX12_agree 94 = .ok (.iload_n 1, 1) := by decide +kernel
theorem dX12_agree_95 : decode cX12_agree 95 = .ok (.invokevirtual 330, 3) := by decide +kernel
theorem dX12_agree_98 : decode cX12_agree 98 = .ok (.iload_n 2, 1) := by decide +kernel
theorem dX12_agree_99 : decode cX12_agree 99 = .ok (.if_icmp .gt 7, 3) := by decide +kernel
theorem dX12_agree_102 : decode cX12_agree 102 = .ok (.iload 6, 2) := by decide +kernel
theorem dX12_agree_104 : decode cX12_agree 104 = .ok (.istore 5, 2) := by decide +kernel
theorem dX12_agree_106 : decode cX12_agree 106 = .ok (.iinc 6 1, 3) := by decide +kernel
theorem dX12_agree_109 : decode cX12_agree 109 = .ok (.goto (-61), 3) := by decide +kernel
theorem dX12_agree_112 : decode cX12_agree 112 = .ok (.iload_n 3, 1) := by decide +kernel
theorem dX12_agree_113 : decode cX12_agree 113 = .ok (.ifCond .ne 11, 3) := by decide +kernel
theorem dX12_agree_116 : decode cX12_agree 116 = .ok (.iload 5, 2) := by decide +kernel
theorem dX12_agree_118 : decode cX12_agree 118 = .ok (.invokestatic 136, 3) := by decide +kernel
theorem dX12_agree_121 : decode cX12_agree 121 = .ok (.goto 5, 3) := by decide +kernel
theorem dX12_agree_124 : decode cX12_agree 124 = .ok (.iload 5, 2) := by decide +kernel
theorem dX12_agree_126 : decode cX12_agree 126 = .ok (.ireturn, 1) := by decide +kernel
theorem dX12_clocksApart_0 : decode cX12_clocksApart 0 = .ok (.ldc_w 333, 3) := by decide +kernel
theorem dX12_clocksApart_3 : decode cX12_clocksApart 3 = .ok (.istore_n 3, 1) := by decide +kernel
theorem dX12_clocksApart_4 : decode cX12_clocksApart 4 = .ok (.iconst 0, 1) := by decide +kernel
theorem dX12_clocksApart_5 : decode cX12_clocksApart 5 = .ok (.istore 4, 2) := by decide +kernel
theorem dX12_clocksApart_7 : decode cX12_clocksApart 7 = .ok (.iconst 0, 1) := by decide +kernel
theorem dX12_clocksApart_8 : decode cX12_clocksApart 8 = .ok (.istore 5, 2) := by decide +kernel
theorem dX12_clocksApart_10 : decode cX12_clocksApart 10 = .ok (.iload 5, 2) := by decide +kernel
theorem dX12_clocksApart_12 : decode cX12_clocksApart 12 = .ok (.bipush 8, 2) := by decide +kernel
theorem dX12_clocksApart_14 : decode cX12_clocksApart 14 = .ok (.if_icmp .ge 50, 3) := by decide +kernel
theorem dX12_clocksApart_17 : decode cX12_clocksApart 17 = .ok (.iload_n 1, 1) := by decide +kernel
theorem dX12_clocksApart_18 : decode cX12_clocksApart 18 = .ok (.iload 5, 2) := by decide +kernel
theorem dX12_clocksApart_20 : decode cX12_clocksApart 20 = .ok (.ishr, 1) := by decide +kernel
theorem dX12_clocksApart_21 : decode cX12_clocksApart 21 = .ok (.iconst 1, 1) := by decide +kernel
theorem dX12_clocksApart_22 : decode cX12_clocksApart 22 = .ok (.iand, 1) := by decide +kernel
theorem dX12_clocksApart_23 : decode cX12_clocksApart 23 = .ok (.ifCond .eq 35, 3) := by decide +kernel
theorem dX12_clocksApart_26 : decode cX12_clocksApart 26 = .ok (.aload_n 0, 1) := by decide +kernel
theorem dX12_clocksApart_27 : decode cX12_clocksApart 27 = .ok (.getfield 61, 3) := by decide +kernel
theorem dX12_clocksApart_30 : decode cX12_clocksApart 30 = .ok (.getfield 100, 3) := by decide +kernel
theorem dX12_clocksApart_33 : decode cX12_clocksApart 33 = .ok (.iload 5, 2) := by decide +kernel
theorem dX12_clocksApart_35 : decode cX12_clocksApart 35 = .ok (.aaload, 1) := by decide +kernel
theorem dX12_clocksApart_36 : decode cX12_clocksApart 36 = .ok (.iload_n 2, 1) := by decide +kernel
theorem dX12_clocksApart_37 : decode cX12_clocksApart 37 = .ok (.invokevirtual 319, 3) := by decide +kernel
theorem dX12_clocksApart_40 : decode cX12_clocksApart 40 = .ok (.istore 6, 2) := by decide +kernel
theorem dX12_clocksApart_42 : decode cX12_clocksApart 42 = .ok (.iload_n 3, 1) := by decide +kernel
theorem dX12_clocksApart_43 : decode cX12_clocksApart 43 = .ok (.iload 6, 2) := by decide +kernel
theorem dX12_clocksApart_45 : decode cX12_clocksApart 45 = .ok (.invokestatic 302, 3) := by decide +kernel
theorem dX12_clocksApart_48 : decode cX12_clocksApart 48 = .ok (.istore_n 3, 1) := by decide +kernel
theorem dX12_clocksApart_49 : decode cX12_clocksApart 49 = .ok (.iload 4, 2) := by decide +kernel
theorem dX12_clocksApart_51 : decode cX12_clocksApart 51 = .ok (.iload 6, 2) := by decide +kernel
theorem dX12_clocksApart_53 : decode cX12_clocksApart 53 = .ok (.invokestatic 256, 3) := by decide +kernel
theorem dX12_clocksApart_56 : decode cX12_clocksApart 56 = .ok (.istore 4, 2) := by decide +kernel
theorem dX12_clocksApart_58 : decode cX12_clocksApart 58 = .ok (.iinc 5 1, 3) := by decide +kernel
theorem dX12_clocksApart_61 : decode cX12_clocksApart 61 = .ok (.goto (-51), 3) := by decide +kernel
theorem dX12_clocksApart_64 : decode cX12_clocksApart 64 = .ok (.iload 4, 2) := by decide +kernel
theorem dX12_clocksApart_66 : decode cX12_clocksApart 66 = .ok (.iload_n 3, 1) := by decide +kernel
theorem dX12_clocksApart_67 : decode cX12_clocksApart 67 = .ok (.isub, 1) := by decide +kernel
theorem dX12_clocksApart_68 : decode cX12_clocksApart 68 = .ok (.ireturn, 1) := by decide +kernel
theorem dX12_leads_0 : decode cX12_leads 0 = .ok (.aload_n 0, 1) := by decide +kernel
theorem dX12_leads_1 : decode cX12_leads 1 = .ok (.getfield 61, 3) := by decide +kernel
theorem dX12_leads_4 : decode cX12_leads 4 = .ok (.iload_n 1, 1) := by decide +kernel
theorem dX12_leads_5 : decode cX12_leads 5 = .ok (.invokevirtual 186, 3) := by decide +kernel
theorem dX12_leads_8 : decode cX12_leads 8 = .ok (.ifCond .ne 5, 3) := by decide +kernel
theorem dX12_leads_11 : decode cX12_leads 11 = .ok (.iconst (-1), 1) := by decide +kernel
theorem dX12_leads_12 : decode cX12_leads 12 = .ok (.ireturn, 1) := by decide +kernel
theorem dX12_leads_13 : decode cX12_leads 13 = .ok (.aload_n 0, 1) := by decide +kernel
theorem dX12_leads_14 : decode cX12_leads 14 = .ok (.getfield 74, 3) := by decide +kernel
theorem dX12_leads_17 : decode cX12_leads 17 = .ok (.aload_n 0, 1) := by decide +kernel
theorem dX12_leads_18 : decode cX12_leads 18 = .ok (.getfield 61, 3) := by decide +kernel
theorem dX12_leads_21 : decode cX12_leads 21 = .ok (.aload_n 0, 1) := by decide +kernel
theorem dX12_leads_22 : decode cX12_leads 22 = .ok (.getfield 19, 3) := by decide +kernel
theorem dX12_leads_25 : decode cX12_leads 25 = .ok (.getfield 126, 3) := by decide +kernel
theorem dX12_leads_28 : decode cX12_leads 28 = .ok (.invokevirtual 334, 3) := by decide +kernel
theorem dX12_leads_31 : decode cX12_leads 31 = .ok (.aload_n 0, 1) := by decide +kernel
theorem dX12_leads_32 : decode cX12_leads 32 = .ok (.getfield 74, 3) := by decide +kernel
theorem dX12_leads_35 : decode cX12_leads 35 = .ok (.iload_n 1, 1) := by decide +kernel
theorem dX12_leads_36 : decode cX12_leads 36 = .ok (.invokevirtual 338, 3) := by decide +kernel
theorem dX12_leads_39 : decode cX12_leads 39 = .ok (.ireturn, 1) := by decide +kernel
theorem dX12_groups_0 : decode cX12_groups 0 = .ok (.iload_n 1, 1) := by decide +kernel
theorem dX12_groups_1 : decode cX12_groups 1 = .ok (.bipush 100, 2) := by decide +kernel
theorem dX12_groups_3 : decode cX12_groups 3 = .ok (.if_icmp .eq 16, 3) := by decide +kernel
theorem dX12_groups_6 : decode cX12_groups 6 = .ok (.aload_n 0, 1) := by decide +kernel
theorem dX12_groups_7 : decode cX12_groups 7 = .ok (.getfield 61, 3) := by decide +kernel
theorem dX12_groups_10 : decode cX12_groups 10 = .ok (.iload_n 1, 1) := by decide +kernel
theorem dX12_groups_11 : decode cX12_groups 11 = .ok (.invokevirtual 186, 3) := by decide +kernel
theorem dX12_groups_14 : decode cX12_groups 14 = .ok (.ifCond .ne 5, 3) := by decide +kernel
theorem dX12_groups_17 : decode cX12_groups 17 = .ok (.iconst (-1), 1) := by decide +kernel
theorem dX12_groups_18 : decode cX12_groups 18 = .ok (.ireturn, 1) := by decide +kernel
theorem dX12_groups_19 : decode cX12_groups 19 = .ok (.aload_n 0, 1) := by decide +kernel
theorem dX12_groups_20 : decode cX12_groups 20 = .ok (.getfield 74, 3) := by decide +kernel
theorem dX12_groups_23 : decode cX12_groups 23 = .ok (.aload_n 0, 1) := by decide +kernel
theorem dX12_groups_24 : decode cX12_groups 24 = .ok (.getfield 61, 3) := by decide +kernel
theorem dX12_groups_27 : decode cX12_groups 27 = .ok (.aload_n 0, 1) := by decide +kernel
theorem dX12_groups_28 : decode cX12_groups 28 = .ok (.getfield 19, 3) := by decide +kernel
theorem dX12_groups_31 : decode cX12_groups 31 = .ok (.getfield 126, 3) := by decide +kernel
theorem dX12_groups_34 : decode cX12_groups 34 = .ok (.invokevirtual 334, 3) := by decide +kernel
theorem dX12_groups_37 : decode cX12_groups 37 = .ok (.iload_n 1, 1) := by decide +kernel
theorem dX12_groups_38 : decode cX12_groups 38 = .ok (.bipush 100, 2) := by decide +kernel
theorem dX12_groups_40 : decode cX12_groups 40 = .ok (.if_icmp .eq 12, 3) := by decide +kernel
theorem dX12_groups_43 : decode cX12_groups 43 = .ok (.aload_n 0, 1) := by decide +kernel
theorem dX12_groups_44 : decode cX12_groups 44 = .ok (.getfield 74, 3) := by decide +kernel
theorem dX12_groups_47 : decode cX12_groups 47 = .ok (.iload_n 1, 1) := by decide +kernel
theorem dX12_groups_48 : decode cX12_groups 48 = .ok (.invokevirtual 341, 3) := by decide +kernel
theorem dX12_groups_51 : decode cX12_groups 51 = .ok (.ireturn, 1) := by decide +kernel
theorem dX12_groups_52 : decode cX12_groups 52 = .ok (.iconst 0, 1) := by decide +kernel
theorem dX12_groups_53 : decode cX12_groups 53 = .ok (.istore_n 2, 1) := by decide +kernel
theorem dX12_groups_54 : decode cX12_groups 54 = .ok (.iconst 0, 1) := by decide +kernel
theorem dX12_groups_55 : decode cX12_groups 55 = .ok (.istore_n 3, 1) := by decide +kernel
theorem dX12_groups_56 : decode cX12_groups 56 = .ok (.iload_n 3, 1) := by decide +kernel
theorem dX12_groups_57 : decode cX12_groups 57 = .ok (.bipush 8, 2) := by decide +kernel
theorem dX12_groups_59 : decode cX12_groups 59 = .ok (.if_icmp .ge 38, 3) := by decide +kernel
theorem dX12_groups_62 : decode cX12_groups 62 = .ok (.aload_n 0, 1) := by decide +kernel
theorem dX12_groups_63 : decode cX12_groups 63 = .ok (.getfield 61, 3) := by decide +kernel
theorem dX12_groups_66 : decode cX12_groups 66 = .ok (.iload_n 3, 1) := by decide +kernel
theorem dX12_groups_67 : decode cX12_groups 67 = .ok (.invokevirtual 186, 3) := by decide +kernel
theorem dX12_groups_70 : decode cX12_groups 70 = .ok (.ifCond .eq 21, 3) := by decide +kernel
theorem dX12_groups_73 : decode cX12_groups 73 = .ok (.aload_n 0, 1) := by decide +kernel
theorem dX12_groups_74 : decode cX12_groups 74 = .ok (.getfield 74, 3) := by decide +kernel
theorem dX12_groups_77 : decode cX12_groups 77 = .ok (.iload_n 3, 1) := by decide +kernel
theorem dX12_groups_78 : decode cX12_groups 78 = .ok (.invokevirtual 341, 3) := by decide +kernel
theorem dX12_groups_81 : decode cX12_groups 81 = .ok (.invokestatic 261, 3) := by decide +kernel
theorem dX12_groups_84 : decode cX12_groups 84 = .ok (.iload_n 3, 1) := by decide +kernel
theorem dX12_groups_85 : decode cX12_groups 85 = .ok (.if_icmp .ne 6, 3) := by decide +kernel
theorem dX12_groups_88 : decode cX12_groups 88 = .ok (.iinc 2 1, 3) := by decide +kernel
theorem dX12_groups_91 : decode cX12_groups 91 = .ok (.iinc 3 1, 3) := by decide +kernel
theorem dX12_groups_94 : decode cX12_groups 94 = .ok (.goto (-38), 3) := by decide +kernel
theorem dX12_groups_97 : decode cX12_groups 97 = .ok (.iload_n 2, 1) := by decide +kernel
theorem dX12_groups_98 : decode cX12_groups 98 = .ok (.ireturn, 1) := by decide +kernel
theorem dX12_order_0 : decode cX12_order 0 = .ok (.iload_n 1, 1) := by decide +kernel
theorem dX12_order_1 : decode cX12_order 1 = .ok (.iconst 0, 1) := by decide +kernel
theorem dX12_order_2 : decode cX12_order 2 = .ok (.iconst 1, 1) := by decide +kernel
theorem dX12_order_3 : decode cX12_order 3 = .ok (.invokestatic 96, 3) := by decide +kernel
theorem dX12_order_6 : decode cX12_order 6 = .ok (.ifCond .ne 5, 3) := by decide +kernel
theorem dX12_order_9 : decode cX12_order 9 = .ok (.iconst (-1), 1) := by decide +kernel
theorem dX12_order_10 : decode cX12_order 10 = .ok (.ireturn, 1) := by decide +kernel
theorem dX12_order_11 : decode cX12_order 11 = .ok (.iconst 0, 1) := by decide +kernel
theorem dX12_order_12 : decode cX12_order 12 = .ok (.istore_n 2, 1) := by decide +kernel
theorem dX12_order_13 : decode cX12_order 13 = .ok (.iconst 0, 1) := by decide +kernel
theorem dX12_order_14 : decode cX12_order 14 = .ok (.istore_n 3, 1) := by decide +kernel
theorem dX12_order_15 : decode cX12_order 15 = .ok (.iconst 0, 1) := by decide +kernel
theorem dX12_order_16 : decode cX12_order 16 = .ok (.istore 4, 2) := by decide +kernel
theorem dX12_order_18 : decode cX12_order 18 = .ok (.iload 4, 2) := by decide +kernel
theorem dX12_order_20 : decode cX12_order 20 = .ok (.bipush 8, 2) := by decide +kernel
theorem dX12_order_22 : decode cX12_order 22 = .ok (.if_icmp .ge 107, 3) := by decide +kernel
theorem dX12_order_25 : decode cX12_order 25 = .ok (.iconst 0, 1) := by decide +kernel
theorem dX12_order_26 : decode cX12_order 26 = .ok (.istore 5, 2) := by decide +kernel
theorem dX12_order_28 : decode cX12_order 28 = .ok (.iload 5, 2) := by decide +kernel
theorem dX12_order_30 : decode cX12_order 30 = .ok (.bipush 8, 2) := by decide +kernel
theorem dX12_order_32 : decode cX12_order 32 = .ok (.if_icmp .ge 91, 3) := by decide +kernel
theorem dX12_order_35 : decode cX12_order 35 = .ok (.aload_n 0, 1) := by decide +kernel
theorem dX12_order_36 : decode cX12_order 36 = .ok (.getfield 61, 3) := by decide +kernel
theorem dX12_order_39 : decode cX12_order 39 = .ok (.iload 4, 2) := by decide +kernel
theorem dX12_order_41 : decode cX12_order 41 = .ok (.invokevirtual 186, 3) := by decide +kernel
theorem dX12_order_44 : decode cX12_order 44 = .ok (.ifCond .eq 73, 3) := by decide +kernel
theorem dX12_order_47 : decode cX12_order 47 = .ok (.aload_n 0, 1) := by decide +kernel
theorem dX12_order_48 : decode cX12_order 48 = .ok (.getfield 61, 3) := by decide +kernel
theorem dX12_order_51 : decode cX12_order 51 = .ok (.iload 5, 2) := by decide +kernel
theorem dX12_order_53 : decode cX12_order 53 = .ok (.invokevirtual 186, 3) := by decide +kernel
theorem dX12_order_56 : decode cX12_order 56 = .ok (.ifCond .eq 61, 3) := by decide +kernel
theorem dX12_order_59 : decode cX12_order 59 = .ok (.aload_n 0, 1) := by decide +kernel
theorem dX12_order_60 : decode cX12_order 60 = .ok (.getfield 61, 3) := by decide +kernel
theorem dX12_order_63 : decode cX12_order 63 = .ok (.getfield 100, 3) := by decide +kernel
theorem dX12_order_66 : decode cX12_order 66 = .ok (.iload 4, 2) := by decide +kernel
theorem dX12_order_68 : decode cX12_order 68 = .ok (.aaload, 1) := by decide +kernel
theorem dX12_order_69 : decode cX12_order 69 = .ok (.getfield 110, 3) := by decide +kernel
theorem dX12_order_72 : decode cX12_order 72 = .ok (.aload_n 0, 1) := by decide +kernel
theorem dX12_order_73 : decode cX12_order 73 = .ok (.getfield 61, 3) := by decide +kernel
theorem dX12_order_76 : decode cX12_order 76 = .ok (.getfield 100, 3) := by decide +kernel
theorem dX12_order_79 : decode cX12_order 79 = .ok (.iload 5, 2) := by decide +kernel
theorem dX12_order_81 : decode cX12_order 81 = .ok (.aaload, 1) := by decide +kernel
theorem dX12_order_82 : decode cX12_order 82 = .ok (.getfield 110, 3) := by decide +kernel
theorem dX12_order_85 : decode cX12_order 85 = .ok (.isub, 1) := by decide +kernel
theorem dX12_order_86 : decode cX12_order 86 = .ok (.istore 6, 2) := by decide +kernel
theorem dX12_order_88 : decode cX12_order 88 = .ok (.iload_n 2, 1) := by decide +kernel
theorem dX12_order_89 : decode cX12_order 89 = .ok (.iload 6, 2) := by decide +kernel
theorem dX12_order_91 : decode cX12_order 91 = .ok (.invokestatic 256, 3) := by decide +kernel
theorem dX12_order_94 : decode cX12_order 94 = .ok (.istore_n 2, 1) := by decide +kernel
theorem dX12_order_95 : decode cX12_order 95 = .ok (.iload 6, 2) := by decide +kernel
theorem dX12_order_97 : decode cX12_order 97 = .ok (.ifCond .le 20, 3) := by decide +kernel
theorem dX12_order_100 : decode cX12_order 100 = .ok (.aload_n 0, 1) := by decide +kernel
theorem dX12_order_101 : decode cX12_order 101 = .ok (.getfield 61, 3) := by decide +kernel
theorem dX12_order_104 : decode cX12_order 104 = .ok (.iload 4, 2) := by decide +kernel
theorem dX12_order_106 : decode cX12_order 106 = .ok (.iload 5, 2) := by decide +kernel
theorem dX12_order_108 : decode cX12_order 108 = .ok (.invokevirtual 344, 3) := by decide +kernel
theorem dX12_order_111 : decode cX12_order 111 = .ok (.ifCond .eq 6, 3) := by decide +kernel
theorem dX12_order_114 : decode cX12_order 114 = .ok (.iinc 3 1, 3) := by decide +kernel
theorem dX12_order_117 : decode cX12_order 117 = .ok (.iinc 5 1, 3) := by decide +kernel
theorem dX12_order_120 : decode cX12_order 120 = .ok (.goto (-92), 3) := by decide +kernel
theorem dX12_order_123 : decode cX12_order 123 = .ok (.iinc 4 1, 3) := by decide +kernel
theorem dX12_order_126 : decode cX12_order 126 = .ok (.goto (-108), 3) := by decide +kernel
theorem dX12_order_129 : decode cX12_order 129 = .ok (.iload_n 1, 1) := by decide +kernel
theorem dX12_order_130 : decode cX12_order 130 = .ok (.ifCond .ne 7, 3) := by decide +kernel
theorem dX12_order_133 : decode cX12_order 133 = .ok (.iload_n 2, 1) := by decide +kernel
theorem dX12_order_134 : decode cX12_order 134 = .ok (.goto 4, 3) := by decide +kernel
theorem dX12_order_137 : decode cX12_order 137 = .ok (.iload_n 3, 1) := by decide +kernel
theorem dX12_order_138 : decode cX12_order 138 = .ok (.ireturn, 1) := by decide +kernel
theorem dX12_seed_0 : decode cX12_seed 0 = .ok (.iload_n 1, 1) := by decide +kernel
theorem dX12_seed_1 : decode cX12_seed 1 = .ok (.iconst 0, 1) := by decide +kernel
theorem dX12_seed_2 : decode cX12_seed 2 = .ok (.ldc_w 347, 3) := by decide +kernel
theorem dX12_seed_5 : decode cX12_seed 5 = .ok (.invokestatic 96, 3) := by decide +kernel
theorem dX12_seed_8 : decode cX12_seed 8 = .ok (.ifCond .ne 5, 3) := by decide +kernel
theorem dX12_seed_11 : decode cX12_seed 11 = .ok (.iconst 0, 1) := by decide +kernel
theorem dX12_seed_12 : decode cX12_seed 12 = .ok (.ireturn, 1) := by decide +kernel
theorem dX12_seed_13 : decode cX12_seed 13 = .ok (.aload_n 0, 1) := by decide +kernel
theorem dX12_seed_14 : decode cX12_seed 14 = .ok (.getfield 61, 3) := by decide +kernel
theorem dX12_seed_17 : decode cX12_seed 17 = .ok (.iload_n 1, 1) := by decide +kernel
theorem dX12_seed_18 : decode cX12_seed 18 = .ok (.putfield 348, 3) := by decide +kernel
theorem dX12_seed_21 : decode cX12_seed 21 = .ok (.iconst 1, 1) := by decide +kernel
theorem dX12_seed_22 : decode cX12_seed 22 = .ok (.ireturn, 1) := by decide +kernel
theorem dX12_keep_0 : decode cX12_keep 0 = .ok (.aload_n 0, 1) := by decide +kernel
theorem dX12_keep_1 : decode cX12_keep 1 = .ok (.getfield 68, 3) := by decide +kernel
theorem dX12_keep_4 : decode cX12_keep 4 = .ok (.aload_n 0, 1) := by decide +kernel
theorem dX12_keep_5 : decode cX12_keep 5 = .ok (.getfield 61, 3) := by decide +kernel
theorem dX12_keep_8 : decode cX12_keep 8 = .ok (.invokevirtual 189, 3) := by decide +kernel
theorem dX12_keep_11 : decode cX12_keep 11 = .ok (.aload_n 0, 1) := by decide +kernel
theorem dX12_keep_12 : decode cX12_keep 12 = .ok (.iconst 1, 1) := by decide +kernel
theorem dX12_keep_13 : decode cX12_keep 13 = .ok (.putfield 351, 3) := by decide +kernel
theorem dX12_keep_16 : decode cX12_keep 16 = .ok (.aload_n 0, 1) := by decide +kernel
theorem dX12_keep_17 : decode cX12_keep 17 = .ok (.getfield 61, 3) := by decide +kernel
theorem dX12_keep_20 : decode cX12_keep 20 = .ok (.getfield 354, 3) := by decide +kernel
theorem dX12_keep_23 : decode cX12_keep 23 = .ok (.ireturn, 1) := by decide +kernel
theorem dX12_undo_0 : decode cX12_undo 0 = .ok (.aload_n 0, 1) := by decide +kernel
theorem dX12_undo_1 : decode cX12_undo 1 = .ok (.getfield 351, 3) := by decide +kernel
theorem dX12_undo_4 : decode cX12_undo 4 = .ok (.ifCond .ne 5, 3) := by decide +kernel
theorem dX12_undo_7 : decode cX12_undo 7 = .ok (.iconst 0, 1) := by decide +kernel
theorem dX12_undo_8 : decode cX12_undo 8 = .ok (.ireturn, 1) := by decide +kernel
theorem dX12_undo_9 : decode cX12_undo 9 = .ok (.aload_n 0, 1) := by decide +kernel
theorem dX12_undo_10 : decode cX12_undo 10 = .ok (.getfield 61, 3) := by decide +kernel
theorem dX12_undo_13 : decode cX12_undo 13 = .ok (.aload_n 0, 1) := by decide +kernel
theorem dX12_undo_14 : decode cX12_undo 14 = .ok (.getfield 68, 3) := by decide +kernel
theorem dX12_undo_17 : decode cX12_undo 17 = .ok (.invokevirtual 189, 3) := by decide +kernel
theorem dX12_undo_20 : decode cX12_undo 20 = .ok (.iconst 0, 1) := by decide +kernel
theorem dX12_undo_21 : decode cX12_undo 21 = .ok (.istore_n 1, 1) := by decide +kernel
theorem dX12_undo_22 : decode cX12_undo 22 = .ok (.iload_n 1, 1) := by decide +kernel
theorem dX12_undo_23 : decode cX12_undo 23 = .ok (.bipush 8, 2) := by decide +kernel
theorem dX12_undo_25 : decode cX12_undo 25 = .ok (.if_icmp .ge 62, 3) := by decide +kernel
theorem dX12_undo_28 : decode cX12_undo 28 = .ok (.aload_n 0, 1) := by decide +kernel
theorem dX12_undo_29 : decode cX12_undo 29 = .ok (.getfield 61, 3) := by decide +kernel
theorem dX12_undo_32 : decode cX12_undo 32 = .ok (.getfield 100, 3) := by decide +kernel
theorem dX12_undo_35 : decode cX12_undo 35 = .ok (.iload_n 1, 1) := by decide +kernel
theorem dX12_undo_36 : decode cX12_undo 36 = .ok (.aaload, 1) := by decide +kernel
theorem dX12_undo_37 : decode cX12_undo 37 = .ok (.astore_n 2, 1) := by decide +kernel
theorem dX12_undo_38 : decode cX12_undo 38 = .ok (.aload_n 2, 1) := by decide +kernel
theorem dX12_undo_39 : decode cX12_undo 39 = .ok (.aload_n 2, 1) := by decide +kernel
theorem dX12_undo_40 : decode cX12_undo 40 = .ok (.getfield 209, 3) := by decide +kernel
theorem dX12_undo_43 : decode cX12_undo 43 = .ok (.aload_n 0, 1) := by decide +kernel
theorem dX12_undo_44 : decode cX12_undo 44 = .ok (.getfield 19, 3) := by decide +kernel
theorem dX12_undo_47 : decode cX12_undo 47 = .ok (.getfield 229, 3) := by decide +kernel
theorem dX12_undo_50 : decode cX12_undo 50 = .ok (.iload_n 1, 1) := by decide +kernel
theorem dX12_undo_51 : decode cX12_undo 51 = .ok (.aaload, 1) := by decide +kernel
theorem dX12_undo_52 : decode cX12_undo 52 = .ok (.invokevirtual 233, 3) := by decide +kernel
theorem dX12_undo_55 : decode cX12_undo 55 = .ok (.invokestatic 302, 3) := by decide +kernel
theorem dX12_undo_58 : decode cX12_undo 58 = .ok (.putfield 209, 3) := by decide +kernel
theorem dX12_undo_61 : decode cX12_undo 61 = .ok (.aload_n 0, 1) := by decide +kernel
theorem dX12_undo_62 : decode cX12_undo 62 = .ok (.getfield 54, 3) := by decide +kernel
theorem dX12_undo_65 : decode cX12_undo 65 = .ok (.aload_n 0, 1) := by decide +kernel
theorem dX12_undo_66 : decode cX12_undo 66 = .ok (.getfield 61, 3) := by decide +kernel
theorem dX12_undo_69 : decode cX12_undo 69 = .ok (.iload_n 1, 1) := by decide +kernel
theorem dX12_undo_70 : decode cX12_undo 70 = .ok (.invokevirtual 222, 3) := by decide +kernel
theorem dX12_undo_73 : decode cX12_undo 73 = .ok (.ifCond .eq 8, 3) := by decide +kernel
theorem dX12_undo_76 : decode cX12_undo 76 = .ok (.aload_n 2, 1) := by decide +kernel
theorem dX12_undo_77 : decode cX12_undo 77 = .ok (.iconst 0, 1) := by decide +kernel
theorem dX12_undo_78 : decode cX12_undo 78 = .ok (.putfield 219, 3) := by decide +kernel
theorem dX12_undo_81 : decode cX12_undo 81 = .ok (.iinc 1 1, 3) := by decide +kernel
theorem dX12_undo_84 : decode cX12_undo 84 = .ok (.goto (-62), 3) := by decide +kernel
theorem dX12_undo_87 : decode cX12_undo 87 = .ok (.iconst 1, 1) := by decide +kernel
theorem dX12_undo_88 : decode cX12_undo 88 = .ok (.ireturn, 1) := by decide +kernel
theorem dX12_check_0 : decode cX12_check 0 = .ok (.iload_n 1, 1) := by decide +kernel
theorem dX12_check_1 : decode cX12_check 1 = .ok (.iconst 0, 1) := by decide +kernel
theorem dX12_check_2 : decode cX12_check 2 = .ok (.bipush 8, 2) := by decide +kernel
theorem dX12_check_4 : decode cX12_check 4 = .ok (.invokestatic 96, 3) := by decide +kernel
theorem dX12_check_7 : decode cX12_check 7 = .ok (.ifCond .eq 14, 3) := by decide +kernel
theorem dX12_check_10 : decode cX12_check 10 = .ok (.iload_n 1, 1) := by decide +kernel
theorem dX12_check_11 : decode cX12_check 11 = .ok (.aload_n 0, 1) := by decide +kernel
theorem dX12_check_12 : decode cX12_check 12 = .ok (.getfield 10, 3) := by decide +kernel
theorem dX12_check_15 : decode cX12_check 15 = .ok (.invokevirtual 149, 3) := by decide +kernel
theorem dX12_check_18 : decode cX12_check 18 = .ok (.if_icmp .le 6, 3) := by decide +kernel
theorem dX12_check_21 : decode cX12_check 21 = .ok (.bipush (-2), 2) := by decide +kernel
theorem dX12_check_23 : decode cX12_check 23 = .ok (.ireturn, 1) := by decide +kernel
theorem dX12_check_24 : decode cX12_check 24 = .ok (.iconst (-1), 1) := by decide +kernel
theorem dX12_check_25 : decode cX12_check 25 = .ok (.istore_n 2, 1) := by decide +kernel
theorem dX12_check_26 : decode cX12_check 26 = .ok (.iload_n 1, 1) := by decide +kernel
theorem dX12_check_27 : decode cX12_check 27 = .ok (.iconst 1, 1) := by decide +kernel
theorem dX12_check_28 : decode cX12_check 28 = .ok (.isub, 1) := by decide +kernel
theorem dX12_check_29 : decode cX12_check 29 = .ok (.istore_n 3, 1) := by decide +kernel
theorem dX12_check_30 : decode cX12_check 30 = .ok (.iload_n 3, 1) := by decide +kernel
theorem dX12_check_31 : decode cX12_check 31 = .ok (.ifCond .lt 53, 3) := by decide +kernel
theorem dX12_check_34 : decode cX12_check 34 = .ok (.aload_n 0, 1) := by decide +kernel
theorem dX12_check_35 : decode cX12_check 35 = .ok (.getfield 61, 3) := by decide +kernel
theorem dX12_check_38 : decode cX12_check 38 = .ok (.iload_n 3, 1) := by decide +kernel
theorem dX12_check_39 : decode cX12_check 39 = .ok (.invokevirtual 186, 3) := by decide +kernel
theorem dX12_check_42 : decode cX12_check 42 = .ok (.ifCond .eq 18, 3) := by decide +kernel
theorem dX12_check_45 : decode cX12_check 45 = .ok (.aload_n 0, 1) := by decide +kernel
theorem dX12_check_46 : decode cX12_check 46 = .ok (.getfield 61, 3) := by decide +kernel
theorem dX12_check_49 : decode cX12_check 49 = .ok (.getfield 100, 3) := by decide +kernel
theorem dX12_check_52 : decode cX12_check 52 = .ok (.iload_n 3, 1) := by decide +kernel
theorem dX12_check_53 : decode cX12_check 53 = .ok (.aaload, 1) := by decide +kernel
theorem dX12_check_54 : decode cX12_check 54 = .ok (.getfield 209, 3) := by decide +kernel
theorem dX12_check_57 : decode cX12_check 57 = .ok (.goto 4, 3) := by decide +kernel
theorem dX12_check_60 : decode cX12_check 60 = .ok (.iconst 0, 1) := by decide +kernel
theorem dX12_check_61 : decode cX12_check 61 = .ok (.istore 4, 2) := by decide +kernel
theorem dX12_check_63 : decode cX12_check 63 = .ok (.aload_n 0, 1) := by decide +kernel
theorem dX12_check_64 : decode cX12_check 64 = .ok (.getfield 10, 3) := by decide +kernel
theorem dX12_check_67 : decode cX12_check 67 = .ok (.iload_n 3, 1) := by decide +kernel
theorem dX12_check_68 : decode cX12_check 68 = .ok (.invokevirtual 357, 3) := by decide +kernel
theorem dX12_check_71 : decode cX12_check 71 = .ok (.iload 4, 2) := by decide +kernel
theorem dX12_check_73 : decode cX12_check 73 = .ok (.if_icmp .eq 5, 3) := by decide +kernel
theorem dX12_check_76 : decode cX12_check 76 = .ok (.iload_n 3, 1) := by decide +kernel
theorem dX12_check_77 : decode cX12_check 77 = .ok (.istore_n 2, 1) := by decide +kernel
theorem dX12_check_78 : decode cX12_check 78 = .ok (.iinc 3 (-1), 3) := by decide +kernel
theorem dX12_check_81 : decode cX12_check 81 = .ok (.goto (-51), 3) := by decide +kernel
theorem dX12_check_84 : decode cX12_check 84 = .ok (.aload_n 0, 1) := by decide +kernel
theorem dX12_check_85 : decode cX12_check 85 = .ok (.getfield 10, 3) := by decide +kernel
theorem dX12_check_88 : decode cX12_check 88 = .ok (.invokevirtual 158, 3) := by decide +kernel
theorem dX12_check_91 : decode cX12_check 91 = .ok (.iload_n 2, 1) := by decide +kernel
theorem dX12_check_92 : decode cX12_check 92 = .ok (.ireturn, 1) := by decide +kernel
theorem dX12_count_0 : decode cX12_count 0 = .ok (.iload_n 1, 1) := by decide +kernel
theorem dX12_count_1 : decode cX12_count 1 = .ok (.bipush 10, 2) := by decide +kernel
theorem dX12_count_3 : decode cX12_count 3 = .ok (.bipush 17, 2) := by decide +kernel
theorem dX12_count_5 : decode cX12_count 5 = .ok (.invokestatic 96, 3) := by decide +kernel
theorem dX12_count_8 : decode cX12_count 8 = .ok (.ifCond .eq 19, 3) := by decide +kernel
theorem dX12_count_11 : decode cX12_count 11 = .ok (.aload_n 0, 1) := by decide +kernel
theorem dX12_count_12 : decode cX12_count 12 = .ok (.getfield 19, 3) := by decide +kernel
theorem dX12_count_15 : decode cX12_count 15 = .ok (.getfield 229, 3) := by decide +kernel
theorem dX12_count_18 : decode cX12_count 18 = .ok (.iload_n 1, 1) := by decide +kernel
theorem dX12_count_19 : decode cX12_count 19 = .ok (.bipush 10, 2) := by decide +kernel
theorem dX12_count_21 : decode cX12_count 21 = .ok (.isub, 1) := by decide +kernel
theorem dX12_count_22 : decode cX12_count 22 = .ok (.aaload, 1) := by decide +kernel
theorem dX12_count_23 : decode cX12_count 23 = .ok (.invokevirtual 233, 3) := by decide +kernel
theorem dX12_count_26 : decode cX12_count 26 = .ok (.ireturn, 1) := by decide +kernel
theorem dX12_count_27 : decode cX12_count 27 = .ok (.iload_n 1, 1) := by decide +kernel
theorem dX12_count_28 : decode cX12_count 28 = .ok (.bipush 20, 2) := by decide +kernel
theorem dX12_count_30 : decode cX12_count 30 = .ok (.bipush 27, 2) := by decide +kernel
theorem dX12_count_32 : decode cX12_count 32 = .ok (.invokestatic 96, 3) := by decide +kernel
theorem dX12_count_35 : decode cX12_count 35 = .ok (.ifCond .eq 19, 3) := by decide +kernel
theorem dX12_count_38 : decode cX12_count 38 = .ok (.aload_n 0, 1) := by decide +kernel
theorem dX12_count_39 : decode cX12_count 39 = .ok (.getfield 19, 3) := by decide +kernel
theorem dX12_count_42 : decode cX12_count 42 = .ok (.getfield 229, 3) := by decide +kernel
theorem dX12_count_45 : decode cX12_count 45 = .ok (.iload_n 1, 1) := by decide +kernel
theorem dX12_count_46 : decode cX12_count 46 = .ok (.bipush 20, 2) := by decide +kernel
theorem dX12_count_48 : decode cX12_count 48 = .ok (.isub, 1) := by decide +kernel
theorem dX12_count_49 : decode cX12_count 49 = .ok (.aaload, 1) := by decide +kernel
theorem dX12_count_50 : decode cX12_count 50 = .ok (.invokevirtual 360, 3) := by decide +kernel
theorem dX12_count_53 : decode cX12_count 53 = .ok (.ireturn, 1) := by decide +kernel
theorem dX12_count_54 : decode cX12_count 54 = .ok (.iload_n 1, 1) := by decide +kernel
theorem dX12_count_55 : decode cX12_count 55 = .ok (.tableswitch 128 0 8 #[49, 57, 65, 77, 85, 93, 101, 112, 120], 49) := by decide +kernel
theorem dX12_count_104 : decode cX12_count 104 = .ok (.aload_n 0, 1) := by decide +kernel
theorem dX12_count_105 : decode cX12_count 105 = .ok (.getfield 61, 3) := by decide +kernel
theorem dX12_count_108 : decode cX12_count 108 = .ok (.getfield 354, 3) := by decide +kernel
theorem dX12_count_111 : decode cX12_count 111 = .ok (.ireturn, 1) := by decide +kernel
theorem dX12_count_112 : decode cX12_count 112 = .ok (.aload_n 0, 1) := by decide +kernel
theorem dX12_count_113 : decode cX12_count 113 = .ok (.getfield 61, 3) := by decide +kernel
theorem dX12_count_116 : decode cX12_count 116 = .ok (.invokevirtual 132, 3) := by decide +kernel
theorem dX12_count_119 : decode cX12_count 119 = .ok (.ireturn, 1) := by decide +kernel
theorem dX12_count_120 : decode cX12_count 120 = .ok (.aload_n 0, 1) := by decide +kernel
theorem dX12_count_121 : decode cX12_count 121 = .ok (.getfield 54, 3) := by decide +kernel
theorem dX12_count_124 : decode cX12_count 124 = .ok (.aload_n 0, 1) := by decide +kernel
theorem dX12_count_125 : decode cX12_count 125 = .ok (.getfield 61, 3) := by decide +kernel
theorem dX12_count_128 : decode cX12_count 128 = .ok (.invokevirtual 246, 3) := by decide +kernel
theorem dX12_count_131 : decode cX12_count 131 = .ok (.ireturn, 1) := by decide +kernel
theorem dX12_count_132 : decode cX12_count 132 = .ok (.aload_n 0, 1) := by decide +kernel
theorem dX12_count_133 : decode cX12_count 133 = .ok (.getfield 61, 3) := by decide +kernel
theorem dX12_count_136 : decode cX12_count 136 = .ok (.invokevirtual 206, 3) := by decide +kernel
theorem dX12_count_139 : decode cX12_count 139 = .ok (.ireturn, 1) := by decide +kernel
theorem dX12_count_140 : decode cX12_count 140 = .ok (.aload_n 0, 1) := by decide +kernel
theorem dX12_count_141 : decode cX12_count 141 = .ok (.getfield 19, 3) := by decide +kernel
theorem dX12_count_144 : decode cX12_count 144 = .ok (.getfield 126, 3) := by decide +kernel
theorem dX12_count_147 : decode cX12_count 147 = .ok (.ireturn, 1) := by decide +kernel
theorem dX12_count_148 : decode cX12_count 148 = .ok (.aload_n 0, 1) := by decide +kernel
theorem dX12_count_149 : decode cX12_count 149 = .ok (.getfield 19, 3) := by decide +kernel
theorem dX12_count_152 : decode cX12_count 152 = .ok (.getfield 129, 3) := by decide +kernel
theorem dX12_count_155 : decode cX12_count 155 = .ok (.ireturn, 1) := by decide +kernel
theorem dX12_count_156 : decode cX12_count 156 = .ok (.aload_n 0, 1) := by decide +kernel
theorem dX12_count_157 : decode cX12_count 157 = .ok (.getfield 19, 3) := by decide +kernel
theorem dX12_count_160 : decode cX12_count 160 = .ok (.getfield 363, 3) := by decide +kernel
theorem dX12_count_163 : decode cX12_count 163 = .ok (.invokevirtual 366, 3) := by decide +kernel
theorem dX12_count_166 : decode cX12_count 166 = .ok (.ireturn, 1) := by decide +kernel
theorem dX12_count_167 : decode cX12_count 167 = .ok (.aload_n 0, 1) := by decide +kernel
theorem dX12_count_168 : decode cX12_count 168 = .ok (.getfield 10, 3) := by decide +kernel
theorem dX12_count_171 : decode cX12_count 171 = .ok (.invokevirtual 149, 3) := by decide +kernel
theorem dX12_count_174 : decode cX12_count 174 = .ok (.ireturn, 1) := by decide +kernel
theorem dX12_count_175 : decode cX12_count 175 = .ok (.aload_n 0, 1) := by decide +kernel
theorem dX12_count_176 : decode cX12_count 176 = .ok (.getfield 61, 3) := by decide +kernel
theorem dX12_count_179 : decode cX12_count 179 = .ok (.getfield 348, 3) := by decide +kernel
theorem dX12_count_182 : decode cX12_count 182 = .ok (.ireturn, 1) := by decide +kernel
theorem dX12_count_183 : decode cX12_count 183 = .ok (.iconst (-1), 1) := by decide +kernel
theorem dX12_count_184 : decode cX12_count 184 = .ok (.ireturn, 1) := by decide +kernel
theorem dX12_within_0 : decode cX12_within 0 = .ok (.iload_n 0, 1) := by decide +kernel
theorem dX12_within_1 : decode cX12_within 1 = .ok (.iload_n 1, 1) := by decide +kernel
theorem dX12_within_2 : decode cX12_within 2 = .ok (.if_icmp .lt 12, 3) := by decide +kernel
theorem dX12_within_5 : decode cX12_within 5 = .ok (.iload_n 0, 1) := by decide +kernel
theorem dX12_within_6 : decode cX12_within 6 = .ok (.iload_n 2, 1) := by decide +kernel
theorem dX12_within_7 : decode cX12_within 7 = .ok (.if_icmp .gt 7, 3) := by decide +kernel
theorem dX12_within_10 : decode cX12_within 10 = .ok (.iconst 1, 1) := by decide +kernel
theorem dX12_within_11 : decode cX12_within 11 = .ok (.goto 4, 3) := by decide +kernel
theorem dX12_within_14 : decode cX12_within 14 = .ok (.iconst 0, 1) := by decide +kernel
theorem dX12_within_15 : decode cX12_within 15 = .ok (.ireturn, 1) := by decide +kernel
theorem dX12_isSinger_0 : decode cX12_isSinger 0 = .ok (.iload_n 0, 1) := by decide +kernel
theorem dX12_isSinger_1 : decode cX12_isSinger 1 = .ok (.iconst 0, 1) := by decide +kernel
theorem dX12_isSinger_2 : decode cX12_isSinger 2 = .ok (.bipush 7, 2) := by decide +kernel
theorem dX12_isSinger_4 : decode cX12_isSinger 4 = .ok (.invokestatic 96, 3) := by decide +kernel
theorem dX12_isSinger_7 : decode cX12_isSinger 7 = .ok (.ireturn, 1) := by decide +kernel
theorem dX12_areTicks_0 : decode cX12_areTicks 0 = .ok (.iload_n 0, 1) := by decide +kernel
theorem dX12_areTicks_1 : decode cX12_areTicks 1 = .ok (.iconst 1, 1) := by decide +kernel
theorem dX12_areTicks_2 : decode cX12_areTicks 2 = .ok (.sipush 240, 3) := by decide +kernel
theorem dX12_areTicks_5 : decode cX12_areTicks 5 = .ok (.invokestatic 96, 3) := by decide +kernel
theorem dX12_areTicks_8 : decode cX12_areTicks 8 = .ok (.ireturn, 1) := by decide +kernel
theorem dX12_lowest_0 : decode cX12_lowest 0 = .ok (.iconst 0, 1) := by decide +kernel
theorem dX12_lowest_1 : decode cX12_lowest 1 = .ok (.istore_n 1, 1) := by decide +kernel
theorem dX12_lowest_2 : decode cX12_lowest 2 = .ok (.iload_n 1, 1) := by decide +kernel
theorem dX12_lowest_3 : decode cX12_lowest 3 = .ok (.bipush 8, 2) := by decide +kernel
theorem dX12_lowest_5 : decode cX12_lowest 5 = .ok (.if_icmp .ge 19, 3) := by decide +kernel
theorem dX12_lowest_8 : decode cX12_lowest 8 = .ok (.iload_n 0, 1) := by decide +kernel
theorem dX12_lowest_9 : decode cX12_lowest 9 = .ok (.iload_n 1, 1) := by decide +kernel
theorem dX12_lowest_10 : decode cX12_lowest 10 = .ok (.ishr, 1) := by decide +kernel
theorem dX12_lowest_11 : decode cX12_lowest 11 = .ok (.iconst 1, 1) := by decide +kernel
theorem dX12_lowest_12 : decode cX12_lowest 12 = .ok (.iand, 1) := by decide +kernel
theorem dX12_lowest_13 : decode cX12_lowest 13 = .ok (.ifCond .eq 5, 3) := by decide +kernel
theorem dX12_lowest_16 : decode cX12_lowest 16 = .ok (.iload_n 1, 1) := by decide +kernel
theorem dX12_lowest_17 : decode cX12_lowest 17 = .ok (.ireturn, 1) := by decide +kernel
theorem dX12_lowest_18 : decode cX12_lowest 18 = .ok (.iinc 1 1, 3) := by decide +kernel
theorem dX12_lowest_21 : decode cX12_lowest 21 = .ok (.goto (-19), 3) := by decide +kernel
theorem dX12_lowest_24 : decode cX12_lowest 24 = .ok (.iconst (-1), 1) := by decide +kernel
theorem dX12_lowest_25 : decode cX12_lowest 25 = .ok (.ireturn, 1) := by decide +kernel
theorem dX12_highest_0 : decode cX12_highest 0 = .ok (.bipush 7, 2) := by decide +kernel
theorem dX12_highest_2 : decode cX12_highest 2 = .ok (.istore_n 1, 1) := by decide +kernel
theorem dX12_highest_3 : decode cX12_highest 3 = .ok (.iload_n 1, 1) := by decide +kernel
theorem dX12_highest_4 : decode cX12_highest 4 = .ok (.ifCond .lt 19, 3) := by decide +kernel
theorem dX12_highest_7 : decode cX12_highest 7 = .ok (.iload_n 0, 1) := by decide +kernel
theorem dX12_highest_8 : decode cX12_highest 8 = .ok (.iload_n 1, 1) := by decide +kernel
theorem dX12_highest_9 : decode cX12_highest 9 = .ok (.ishr, 1) := by decide +kernel
theorem dX12_highest_10 : decode cX12_highest 10 = .ok (.iconst 1, 1) := by decide +kernel
theorem dX12_highest_11 : decode cX12_highest 11 = .ok (.iand, 1) := by decide +kernel
theorem dX12_highest_12 : decode cX12_highest 12 = .ok (.ifCond .eq 5, 3) := by decide +kernel
theorem dX12_highest_15 : decode cX12_highest 15 = .ok (.iload_n 1, 1) := by decide +kernel
theorem dX12_highest_16 : decode cX12_highest 16 = .ok (.ireturn, 1) := by decide +kernel
theorem dX12_highest_17 : decode cX12_highest 17 = .ok (.iinc 1 (-1), 3) := by decide +kernel
theorem dX12_highest_20 : decode cX12_highest 20 = .ok (.goto (-17), 3) := by decide +kernel
theorem dX12_highest_23 : decode cX12_highest 23 = .ok (.iconst (-1), 1) := by decide +kernel
theorem dX12_highest_24 : decode cX12_highest 24 = .ok (.ireturn, 1) := by decide +kernel
theorem dX12_clash_0 : decode cX12_clash 0 = .ok (.iload_n 0, 1) := by decide +kernel
theorem dX12_clash_1 : decode cX12_clash 1 = .ok (.iload_n 1, 1) := by decide +kernel
theorem dX12_clash_2 : decode cX12_clash 2 = .ok (.isub, 1) := by decide +kernel
theorem dX12_clash_3 : decode cX12_clash 3 = .ok (.invokestatic 324, 3) := by decide +kernel
theorem dX12_clash_6 : decode cX12_clash 6 = .ok (.istore_n 2, 1) := by decide +kernel
theorem dX12_clash_7 : decode cX12_clash 7 = .ok (.iload_n 0, 1) := by decide +kernel
theorem dX12_clash_8 : decode cX12_clash 8 = .ok (.ifCond .eq 22, 3) := by decide +kernel
theorem dX12_clash_11 : decode cX12_clash 11 = .ok (.iload_n 1, 1) := by decide +kernel
theorem dX12_clash_12 : decode cX12_clash 12 = .ok (.ifCond .eq 18, 3) := by decide +kernel
theorem dX12_clash_15 : decode cX12_clash 15 = .ok (.iload_n 2, 1) := by decide +kernel
theorem dX12_clash_16 : decode cX12_clash 16 = .ok (.iconst 1, 1) := by decide +kernel
theorem dX12_clash_17 : decode cX12_clash 17 = .ok (.if_icmp .eq 9, 3) := by decide +kernel
theorem dX12_clash_20 : decode cX12_clash 20 = .ok (.iload_n 2, 1) := by decide +kernel
theorem dX12_clash_21 : decode cX12_clash 21 = .ok (.bipush 6, 2) := by decide +kernel
theorem dX12_clash_23 : decode cX12_clash 23 = .ok (.if_icmp .ne 7, 3) := by decide +kernel
theorem dX12_clash_26 : decode cX12_clash 26 = .ok (.iconst 1, 1) := by decide +kernel
theorem dX12_clash_27 : decode cX12_clash 27 = .ok (.goto 4, 3) := by decide +kernel
theorem dX12_clash_30 : decode cX12_clash 30 = .ok (.iconst 0, 1) := by decide +kernel
theorem dX12_clash_31 : decode cX12_clash 31 = .ok (.ireturn, 1) := by decide +kernel
theorem dX12_clashesBy_0 : decode cX12_clashesBy 0 = .ok (.iconst 0, 1) := by decide +kernel
theorem dX12_clashesBy_1 : decode cX12_clashesBy 1 = .ok (.istore_n 3, 1) := by decide +kernel
theorem dX12_clashesBy_2 : decode cX12_clashesBy 2 = .ok (.iconst 0, 1) := by decide +kernel
theorem dX12_clashesBy_3 : decode cX12_clashesBy 3 = .ok (.istore 4, 2) := by decide +kernel
theorem dX12_clashesBy_5 : decode cX12_clashesBy 5 = .ok (.iload 4, 2) := by decide +kernel
theorem dX12_clashesBy_7 : decode cX12_clashesBy 7 = .ok (.aload_n 1, 1) := by decide +kernel
theorem dX12_clashesBy_8 : decode cX12_clashesBy 8 = .ok (.invokevirtual 233, 3) := by decide +kernel
theorem dX12_clashesBy_11 : decode cX12_clashesBy 11 = .ok (.if_icmp .ge 32, 3) := by decide +kernel
theorem dX12_clashesBy_14 : decode cX12_clashesBy 14 = .ok (.aload_n 0, 1) := by decide +kernel
theorem dX12_clashesBy_15 : decode cX12_clashesBy 15 = .ok (.iload 4, 2) := by decide +kernel
theorem dX12_clashesBy_17 : decode cX12_clashesBy 17 = .ok (.iload_n 2, 1) := by decide +kernel
theorem dX12_clashesBy_18 : decode cX12_clashesBy 18 = .ok (.iadd, 1) := by decide +kernel
theorem dX12_clashesBy_19 : decode cX12_clashesBy 19 = .ok (.invokevirtual 234, 3) := by decide +kernel
theorem dX12_clashesBy_22 : decode cX12_clashesBy 22 = .ok (.aload_n 1, 1) := by decide +kernel
theorem dX12_clashesBy_23 : decode cX12_clashesBy 23 = .ok (.iload 4, 2) := by decide +kernel
theorem dX12_clashesBy_25 : decode cX12_clashesBy 25 = .ok (.invokevirtual 234, 3) := by decide +kernel
theorem dX12_clashesBy_28 : decode cX12_clashesBy 28 = .ok (.invokestatic 271, 3) := by decide +kernel
theorem dX12_clashesBy_31 : decode cX12_clashesBy 31 = .ok (.ifCond .eq 6, 3) := by decide +kernel
theorem dX12_clashesBy_34 : decode cX12_clashesBy 34 = .ok (.iinc 3 1, 3) := by decide +kernel
theorem dX12_clashesBy_37 : decode cX12_clashesBy 37 = .ok (.iinc 4 1, 3) := by decide +kernel
theorem dX12_clashesBy_40 : decode cX12_clashesBy 40 = .ok (.goto (-35), 3) := by decide +kernel
theorem dX12_clashesBy_43 : decode cX12_clashesBy 43 = .ok (.iload_n 3, 1) := by decide +kernel
theorem dX12_clashesBy_44 : decode cX12_clashesBy 44 = .ok (.ireturn, 1) := by decide +kernel
theorem dX12_commonDivisor_0 : decode cX12_commonDivisor 0 = .ok (.iload_n 0, 1) := by decide +kernel
theorem dX12_commonDivisor_1 : decode cX12_commonDivisor 1 = .ok (.istore_n 2, 1) := by decide +kernel
theorem dX12_commonDivisor_2 : decode cX12_commonDivisor 2 = .ok (.iload_n 1, 1) := by decide +kernel
theorem dX12_commonDivisor_3 : decode cX12_commonDivisor 3 = .ok (.istore_n 3, 1) := by decide +kernel
theorem dX12_commonDivisor_4 : decode cX12_commonDivisor 4 = .ok (.iconst 0, 1) := by decide +kernel
theorem dX12_commonDivisor_5 : decode cX12_commonDivisor 5 = .ok (.istore 4, 2) := by decide +kernel
theorem dX12_commonDivisor_7 : decode cX12_commonDivisor 7 = .ok (.iload 4, 2) := by decide +kernel
theorem dX12_commonDivisor_9 : decode cX12_commonDivisor 9 = .ok (.bipush 64, 2) := by decide +kernel
theorem dX12_commonDivisor_11 : decode cX12_commonDivisor 11 = .ok (.if_icmp .ge 23, 3) := by decide +kernel
theorem dX12_commonDivisor_14 : decode cX12_commonDivisor 14 = .ok (.iload_n 3, 1) := by decide +kernel
theorem dX12_commonDivisor_15 : decode cX12_commonDivisor 15 = .ok (.ifCond .eq 19, 3) := by decide +kernel
theorem dX12_commonDivisor_18 : decode cX12_commonDivisor 18 = .ok (.iload_n 2, 1) := by decide +kernel
theorem dX12_commonDivisor_19 : decode cX12_commonDivisor 19 = .ok (.iload_n 3, 1) := by decide +kernel
theorem dX12_commonDivisor_20 : decode cX12_commonDivisor 20 = .ok (.irem, 1) := by decide +kernel
theorem dX12_commonDivisor_21 : decode cX12_commonDivisor 21 = .ok (.istore 5, 2) := by decide +kernel
theorem dX12_commonDivisor_23 : decode cX12_commonDivisor 23 = .ok (.iload_n 3, 1) := by decide +kernel
theorem dX12_commonDivisor_24 : decode cX12_commonDivisor 24 = .ok (.istore_n 2, 1) := by decide +kernel
theorem dX12_commonDivisor_25 : decode cX12_commonDivisor 25 = .ok (.iload 5, 2) := by decide +kernel
theorem dX12_commonDivisor_27 : decode cX12_commonDivisor 27 = .ok (.istore_n 3, 1) := by decide +kernel
theorem dX12_commonDivisor_28 : decode cX12_commonDivisor 28 = .ok (.iinc 4 1, 3) := by decide +kernel
theorem dX12_commonDivisor_31 : decode cX12_commonDivisor 31 = .ok (.goto (-24), 3) := by decide +kernel
theorem dX12_commonDivisor_34 : decode cX12_commonDivisor 34 = .ok (.iload_n 2, 1) := by decide +kernel
theorem dX12_commonDivisor_35 : decode cX12_commonDivisor 35 = .ok (.ireturn, 1) := by decide +kernel
