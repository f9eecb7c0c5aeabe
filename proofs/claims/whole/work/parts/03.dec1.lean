theorem dX0_init_0 : decode cX0_init 0 = .ok (.aload_n 0, 1) := by decide +kernel
theorem dX0_init_1 : decode cX0_init 1 = .ok (.invokespecial 3, 3) := by decide +kernel
theorem dX0_init_4 : decode cX0_init 4 = .ok (.aload_n 0, 1) := by decide +kernel
theorem dX0_init_5 : decode cX0_init 5 = .ok (.bipush 60, 2) := by decide +kernel
theorem dX0_init_7 : decode cX0_init 7 = .ok (.newarray .int, 2) := by decide +kernel
theorem dX0_init_9 : decode cX0_init 9 = .ok (.putfield 11, 3) := by decide +kernel
theorem dX0_init_12 : decode cX0_init 12 = .ok (.aload_n 0, 1) := by decide +kernel
theorem dX0_init_13 : decode cX0_init 13 = .ok (.bipush 60, 2) := by decide +kernel
theorem dX0_init_15 : decode cX0_init 15 = .ok (.newarray .int, 2) := by decide +kernel
theorem dX0_init_17 : decode cX0_init 17 = .ok (.putfield 17, 3) := by decide +kernel
theorem dX0_init_20 : decode cX0_init 20 = .ok (.aload_n 0, 1) := by decide +kernel
theorem dX0_init_21 : decode cX0_init 21 = .ok (.bipush 60, 2) := by decide +kernel
theorem dX0_init_23 : decode cX0_init 23 = .ok (.newarray .int, 2) := by decide +kernel
theorem dX0_init_25 : decode cX0_init 25 = .ok (.putfield 20, 3) := by decide +kernel
theorem dX0_init_28 : decode cX0_init 28 = .ok (.aload_n 0, 1) := by decide +kernel
theorem dX0_init_29 : decode cX0_init 29 = .ok (.bipush 60, 2) := by decide +kernel
theorem dX0_init_31 : decode cX0_init 31 = .ok (.newarray .int, 2) := by decide +kernel
theorem dX0_init_33 : decode cX0_init 33 = .ok (.putfield 23, 3) := by decide +kernel
theorem dX0_init_36 : decode cX0_init 36 = .ok (.return_, 1) := by decide +kernel
theorem dX0_plan_0 : decode cX0_plan 0 = .ok (.aload_n 0, 1) := by decide +kernel
theorem dX0_plan_1 : decode cX0_plan 1 = .ok (.aload_n 1, 1) := by decide +kernel
theorem dX0_plan_2 : decode cX0_plan 2 = .ok (.invokevirtual 26, 3) := by decide +kernel
theorem dX0_plan_5 : decode cX0_plan 5 = .ok (.aload_n 0, 1) := by decide +kernel
theorem dX0_plan_6 : decode cX0_plan 6 = .ok (.getfield 30, 3) := by decide +kernel
theorem dX0_plan_9 : decode cX0_plan 9 = .ok (.iconst 1, 1) := by decide +kernel
theorem dX0_plan_10 : decode cX0_plan 10 = .ok (.isub, 1) := by decide +kernel
theorem dX0_plan_11 : decode cX0_plan 11 = .ok (.istore_n 3, 1) := by decide +kernel
theorem dX0_plan_12 : decode cX0_plan 12 = .ok (.iload_n 3, 1) := by decide +kernel
theorem dX0_plan_13 : decode cX0_plan 13 = .ok (.ifCond .lt 21, 3) := by decide +kernel
theorem dX0_plan_16 : decode cX0_plan 16 = .ok (.aload_n 0, 1) := by decide +kernel
theorem dX0_plan_17 : decode cX0_plan 17 = .ok (.getfield 20, 3) := by decide +kernel
theorem dX0_plan_20 : decode cX0_plan 20 = .ok (.iload_n 3, 1) := by decide +kernel
theorem dX0_plan_21 : decode cX0_plan 21 = .ok (.aload_n 0, 1) := by decide +kernel
theorem dX0_plan_22 : decode cX0_plan 22 = .ok (.iload_n 3, 1) := by decide +kernel
theorem dX0_plan_23 : decode cX0_plan 23 = .ok (.iload_n 2, 1) := by decide +kernel
theorem dX0_plan_24 : decode cX0_plan 24 = .ok (.invokevirtual 34, 3) := by decide +kernel
theorem dX0_plan_27 : decode cX0_plan 27 = .ok (.iastore, 1) := by decide +kernel
theorem dX0_plan_28 : decode cX0_plan 28 = .ok (.iinc 3 (-1), 3) := by decide +kernel
theorem dX0_plan_31 : decode cX0_plan 31 = .ok (.goto (-19), 3) := by decide +kernel
theorem dX0_plan_34 : decode cX0_plan 34 = .ok (.aload_n 0, 1) := by decide +kernel
theorem dX0_plan_35 : decode cX0_plan 35 = .ok (.iconst 0, 1) := by decide +kernel
theorem dX0_plan_36 : decode cX0_plan 36 = .ok (.putfield 38, 3) := by decide +kernel
theorem dX0_plan_39 : decode cX0_plan 39 = .ok (.aload_n 0, 1) := by decide +kernel
theorem dX0_plan_40 : decode cX0_plan 40 = .ok (.getfield 30, 3) := by decide +kernel
theorem dX0_plan_43 : decode cX0_plan 43 = .ok (.ifCond .le 17, 3) := by decide +kernel
theorem dX0_plan_46 : decode cX0_plan 46 = .ok (.aload_n 0, 1) := by decide +kernel
theorem dX0_plan_47 : decode cX0_plan 47 = .ok (.getfield 20, 3) := by decide +kernel
theorem dX0_plan_50 : decode cX0_plan 50 = .ok (.iconst 0, 1) := by decide +kernel
theorem dX0_plan_51 : decode cX0_plan 51 = .ok (.iaload, 1) := by decide +kernel
theorem dX0_plan_52 : decode cX0_plan 52 = .ok (.sipush 1000, 3) := by decide +kernel
theorem dX0_plan_55 : decode cX0_plan 55 = .ok (.if_icmp .lt 5, 3) := by decide +kernel
theorem dX0_plan_58 : decode cX0_plan 58 = .ok (.iconst 0, 1) := by decide +kernel
theorem dX0_plan_59 : decode cX0_plan 59 = .ok (.ireturn, 1) := by decide +kernel
theorem dX0_plan_60 : decode cX0_plan 60 = .ok (.aload_n 0, 1) := by decide +kernel
theorem dX0_plan_61 : decode cX0_plan 61 = .ok (.invokevirtual 41, 3) := by decide +kernel
theorem dX0_plan_64 : decode cX0_plan 64 = .ok (.iconst 1, 1) := by decide +kernel
theorem dX0_plan_65 : decode cX0_plan 65 = .ok (.ireturn, 1) := by decide +kernel
theorem dX0_fewest_0 : decode cX0_fewest 0 = .ok (.aload_n 0, 1) := by decide +kernel
theorem dX0_fewest_1 : decode cX0_fewest 1 = .ok (.getfield 38, 3) := by decide +kernel
theorem dX0_fewest_4 : decode cX0_fewest 4 = .ok (.ireturn, 1) := by decide +kernel
theorem dX0_placeOf_0 : decode cX0_placeOf 0 = .ok (.iload_n 1, 1) := by decide +kernel
theorem dX0_placeOf_1 : decode cX0_placeOf 1 = .ok (.ifCond .lt 20, 3) := by decide +kernel
theorem dX0_placeOf_4 : decode cX0_placeOf 4 = .ok (.iload_n 1, 1) := by decide +kernel
theorem dX0_placeOf_5 : decode cX0_placeOf 5 = .ok (.aload_n 0, 1) := by decide +kernel
theorem dX0_placeOf_6 : decode cX0_placeOf 6 = .ok (.getfield 38, 3) := by decide +kernel
theorem dX0_placeOf_9 : decode cX0_placeOf 9 = .ok (.if_icmp .ge 12, 3) := by decide +kernel
theorem dX0_placeOf_12 : decode cX0_placeOf 12 = .ok (.aload_n 0, 1) := by decide +kernel
theorem dX0_placeOf_13 : decode cX0_placeOf 13 = .ok (.getfield 23, 3) := by decide +kernel
theorem dX0_placeOf_16 : decode cX0_placeOf 16 = .ok (.iload_n 1, 1) := by decide +kernel
theorem dX0_placeOf_17 : decode cX0_placeOf 17 = .ok (.iaload, 1) := by decide +kernel
theorem dX0_placeOf_18 : decode cX0_placeOf 18 = .ok (.goto 5, 3) := by decide +kernel
theorem dX0_placeOf_21 : decode cX0_placeOf 21 = .ok (.bipush (-4), 2) := by decide +kernel
theorem dX0_placeOf_23 : decode cX0_placeOf 23 = .ok (.ireturn, 1) := by decide +kernel
theorem dX0_list_0 : decode cX0_list 0 = .ok (.aload_n 0, 1) := by decide +kernel
theorem dX0_list_1 : decode cX0_list 1 = .ok (.iconst 0, 1) := by decide +kernel
theorem dX0_list_2 : decode cX0_list 2 = .ok (.putfield 30, 3) := by decide +kernel
theorem dX0_list_5 : decode cX0_list 5 = .ok (.iconst 0, 1) := by decide +kernel
theorem dX0_list_6 : decode cX0_list 6 = .ok (.istore_n 2, 1) := by decide +kernel
theorem dX0_list_7 : decode cX0_list 7 = .ok (.iload_n 2, 1) := by decide +kernel
theorem dX0_list_8 : decode cX0_list 8 = .ok (.aload_n 1, 1) := by decide +kernel
theorem dX0_list_9 : decode cX0_list 9 = .ok (.invokevirtual 44, 3) := by decide +kernel
theorem dX0_list_12 : decode cX0_list 12 = .ok (.if_icmp .ge 90, 3) := by decide +kernel
theorem dX0_list_15 : decode cX0_list 15 = .ok (.aload_n 1, 1) := by decide +kernel
theorem dX0_list_16 : decode cX0_list 16 = .ok (.iload_n 2, 1) := by decide +kernel
theorem dX0_list_17 : decode cX0_list 17 = .ok (.invokevirtual 48, 3) := by decide +kernel
theorem dX0_list_20 : decode cX0_list 20 = .ok (.ifCond .eq 32, 3) := by decide +kernel
theorem dX0_list_23 : decode cX0_list 23 = .ok (.aload_n 0, 1) := by decide +kernel
theorem dX0_list_24 : decode cX0_list 24 = .ok (.getfield 30, 3) := by decide +kernel
theorem dX0_list_27 : decode cX0_list 27 = .ok (.bipush 60, 2) := by decide +kernel
theorem dX0_list_29 : decode cX0_list 29 = .ok (.if_icmp .ge 23, 3) := by decide +kernel
theorem dX0_list_32 : decode cX0_list 32 = .ok (.aload_n 0, 1) := by decide +kernel
theorem dX0_list_33 : decode cX0_list 33 = .ok (.getfield 11, 3) := by decide +kernel
theorem dX0_list_36 : decode cX0_list 36 = .ok (.aload_n 0, 1) := by decide +kernel
theorem dX0_list_37 : decode cX0_list 37 = .ok (.getfield 30, 3) := by decide +kernel
theorem dX0_list_40 : decode cX0_list 40 = .ok (.iconst 0, 1) := by decide +kernel
theorem dX0_list_41 : decode cX0_list 41 = .ok (.iastore, 1) := by decide +kernel
theorem dX0_list_42 : decode cX0_list 42 = .ok (.aload_n 0, 1) := by decide +kernel
theorem dX0_list_43 : decode cX0_list 43 = .ok (.dup, 1) := by decide +kernel
theorem dX0_list_44 : decode cX0_list 44 = .ok (.getfield 30, 3) := by decide +kernel
theorem dX0_list_47 : decode cX0_list 47 = .ok (.iconst 1, 1) := by decide +kernel
theorem dX0_list_48 : decode cX0_list 48 = .ok (.iadd, 1) := by decide +kernel
theorem dX0_list_49 : decode cX0_list 49 = .ok (.putfield 30, 3) := by decide +kernel
theorem dX0_list_52 : decode cX0_list 52 = .ok (.aload_n 0, 1) := by decide +kernel
theorem dX0_list_53 : decode cX0_list 53 = .ok (.getfield 30, 3) := by decide +kernel
theorem dX0_list_56 : decode cX0_list 56 = .ok (.ifCond .le 40, 3) := by decide +kernel
theorem dX0_list_59 : decode cX0_list 59 = .ok (.aload_n 1, 1) := by decide +kernel
theorem dX0_list_60 : decode cX0_list 60 = .ok (.iload_n 2, 1) := by decide +kernel
theorem dX0_list_61 : decode cX0_list 61 = .ok (.invokevirtual 52, 3) := by decide +kernel
theorem dX0_list_64 : decode cX0_list 64 = .ok (.ifCond .eq 32, 3) := by decide +kernel
theorem dX0_list_67 : decode cX0_list 67 = .ok (.aload_n 0, 1) := by decide +kernel
theorem dX0_list_68 : decode cX0_list 68 = .ok (.getfield 11, 3) := by decide +kernel
theorem dX0_list_71 : decode cX0_list 71 = .ok (.aload_n 0, 1) := by decide +kernel
theorem dX0_list_72 : decode cX0_list 72 = .ok (.getfield 30, 3) := by decide +kernel
theorem dX0_list_75 : decode cX0_list 75 = .ok (.iconst 1, 1) := by decide +kernel
theorem dX0_list_76 : decode cX0_list 76 = .ok (.isub, 1) := by decide +kernel
theorem dX0_list_77 : decode cX0_list 77 = .ok (.dup2, 1) := by decide +kernel
theorem dX0_list_78 : decode cX0_list 78 = .ok (.iaload, 1) := by decide +kernel
theorem dX0_list_79 : decode cX0_list 79 = .ok (.iconst 1, 1) := by decide +kernel
theorem dX0_list_80 : decode cX0_list 80 = .ok (.iadd, 1) := by decide +kernel
theorem dX0_list_81 : decode cX0_list 81 = .ok (.iastore, 1) := by decide +kernel
theorem dX0_list_82 : decode cX0_list 82 = .ok (.aload_n 0, 1) := by decide +kernel
theorem dX0_list_83 : decode cX0_list 83 = .ok (.getfield 17, 3) := by decide +kernel
theorem dX0_list_86 : decode cX0_list 86 = .ok (.aload_n 0, 1) := by decide +kernel
theorem dX0_list_87 : decode cX0_list 87 = .ok (.getfield 30, 3) := by decide +kernel
theorem dX0_list_90 : decode cX0_list 90 = .ok (.iconst 1, 1) := by decide +kernel
theorem dX0_list_91 : decode cX0_list 91 = .ok (.isub, 1) := by decide +kernel
theorem dX0_list_92 : decode cX0_list 92 = .ok (.iload_n 2, 1) := by decide +kernel
theorem dX0_list_93 : decode cX0_list 93 = .ok (.iconst 1, 1) := by decide +kernel
theorem dX0_list_94 : decode cX0_list 94 = .ok (.iadd, 1) := by decide +kernel
theorem dX0_list_95 : decode cX0_list 95 = .ok (.iastore, 1) := by decide +kernel
theorem dX0_list_96 : decode cX0_list 96 = .ok (.iinc 2 1, 3) := by decide +kernel
theorem dX0_list_99 : decode cX0_list 99 = .ok (.goto (-92), 3) := by decide +kernel
theorem dX0_list_102 : decode cX0_list 102 = .ok (.return_, 1) := by decide +kernel
theorem dX0_fewestFrom_0 : decode cX0_fewestFrom 0 = .ok (.sipush 1000, 3) := by decide +kernel
theorem dX0_fewestFrom_3 : decode cX0_fewestFrom 3 = .ok (.istore_n 3, 1) := by decide +kernel
theorem dX0_fewestFrom_4 : decode cX0_fewestFrom 4 = .ok (.iconst 0, 1) := by decide +kernel
theorem dX0_fewestFrom_5 : decode cX0_fewestFrom 5 = .ok (.istore 4, 2) := by decide +kernel
theorem dX0_fewestFrom_7 : decode cX0_fewestFrom 7 = .ok (.iload_n 1, 1) := by decide +kernel
theorem dX0_fewestFrom_8 : decode cX0_fewestFrom 8 = .ok (.iconst 1, 1) := by decide +kernel
theorem dX0_fewestFrom_9 : decode cX0_fewestFrom 9 = .ok (.iadd, 1) := by decide +kernel
theorem dX0_fewestFrom_10 : decode cX0_fewestFrom 10 = .ok (.istore 5, 2) := by decide +kernel
theorem dX0_fewestFrom_12 : decode cX0_fewestFrom 12 = .ok (.iload 5, 2) := by decide +kernel
theorem dX0_fewestFrom_14 : decode cX0_fewestFrom 14 = .ok (.aload_n 0, 1) := by decide +kernel
theorem dX0_fewestFrom_15 : decode cX0_fewestFrom 15 = .ok (.getfield 30, 3) := by decide +kernel
theorem dX0_fewestFrom_18 : decode cX0_fewestFrom 18 = .ok (.if_icmp .gt 60, 3) := by decide +kernel
theorem dX0_fewestFrom_21 : decode cX0_fewestFrom 21 = .ok (.iload_n 1, 1) := by decide +kernel
theorem dX0_fewestFrom_22 : decode cX0_fewestFrom 22 = .ok (.ifCond .lt 56, 3) := by decide +kernel
theorem dX0_fewestFrom_25 : decode cX0_fewestFrom 25 = .ok (.iload 4, 2) := by decide +kernel
theorem dX0_fewestFrom_27 : decode cX0_fewestFrom 27 = .ok (.aload_n 0, 1) := by decide +kernel
theorem dX0_fewestFrom_28 : decode cX0_fewestFrom 28 = .ok (.getfield 11, 3) := by decide +kernel
theorem dX0_fewestFrom_31 : decode cX0_fewestFrom 31 = .ok (.iload 5, 2) := by decide +kernel
theorem dX0_fewestFrom_33 : decode cX0_fewestFrom 33 = .ok (.iconst 1, 1) := by decide +kernel
theorem dX0_fewestFrom_34 : decode cX0_fewestFrom 34 = .ok (.isub, 1) := by decide +kernel
theorem dX0_fewestFrom_35 : decode cX0_fewestFrom 35 = .ok (.iaload, 1) := by decide +kernel
theorem dX0_fewestFrom_36 : decode cX0_fewestFrom 36 = .ok (.iadd, 1) := by decide +kernel
theorem dX0_fewestFrom_37 : decode cX0_fewestFrom 37 = .ok (.istore 4, 2) := by decide +kernel
theorem dX0_fewestFrom_39 : decode cX0_fewestFrom 39 = .ok (.iload 4, 2) := by decide +kernel
theorem dX0_fewestFrom_41 : decode cX0_fewestFrom 41 = .ok (.iload_n 2, 1) := by decide +kernel
theorem dX0_fewestFrom_42 : decode cX0_fewestFrom 42 = .ok (.if_icmp .gt 30, 3) := by decide +kernel
theorem dX0_fewestFrom_45 : decode cX0_fewestFrom 45 = .ok (.iload_n 3, 1) := by decide +kernel
theorem dX0_fewestFrom_46 : decode cX0_fewestFrom 46 = .ok (.iload 5, 2) := by decide +kernel
theorem dX0_fewestFrom_48 : decode cX0_fewestFrom 48 = .ok (.aload_n 0, 1) := by decide +kernel
theorem dX0_fewestFrom_49 : decode cX0_fewestFrom 49 = .ok (.getfield 30, 3) := by decide +kernel
theorem dX0_fewestFrom_52 : decode cX0_fewestFrom 52 = .ok (.if_icmp .ne 7, 3) := by decide +kernel
theorem dX0_fewestFrom_55 : decode cX0_fewestFrom 55 = .ok (.iconst 0, 1) := by decide +kernel
theorem dX0_fewestFrom_56 : decode cX0_fewestFrom 56 = .ok (.goto 12, 3) := by decide +kernel
theorem dX0_fewestFrom_59 : decode cX0_fewestFrom 59 = .ok (.iconst 1, 1) := by decide +kernel
theorem dX0_fewestFrom_60 : decode cX0_fewestFrom 60 = .ok (.aload_n 0, 1) := by decide +kernel
theorem dX0_fewestFrom_61 : decode cX0_fewestFrom 61 = .ok (.getfield 20, 3) := by decide +kernel
theorem dX0_fewestFrom_64 : decode cX0_fewestFrom 64 = .ok (.iload 5, 2) := by decide +kernel
theorem dX0_fewestFrom_66 : decode cX0_fewestFrom 66 = .ok (.iaload, 1) := by decide +kernel
theorem dX0_fewestFrom_67 : decode cX0_fewestFrom 67 = .ok (.iadd, 1) := by decide +kernel
theorem dX0_fewestFrom_68 : decode cX0_fewestFrom 68 = .ok (.invokestatic 56, 3) := by decide +kernel
theorem dX0_fewestFrom_71 : decode cX0_fewestFrom 71 = .ok (.istore_n 3, 1) := by decide +kernel
theorem dX0_fewestFrom_72 : decode cX0_fewestFrom 72 = .ok (.iinc 5 1, 3) := by decide +kernel
theorem dX0_fewestFrom_75 : decode cX0_fewestFrom 75 = .ok (.goto (-63), 3) := by decide +kernel
theorem dX0_fewestFrom_78 : decode cX0_fewestFrom 78 = .ok (.iload_n 3, 1) := by decide +kernel
theorem dX0_fewestFrom_79 : decode cX0_fewestFrom 79 = .ok (.sipush 1000, 3) := by decide +kernel
theorem dX0_fewestFrom_82 : decode cX0_fewestFrom 82 = .ok (.invokestatic 56, 3) := by decide +kernel
theorem dX0_fewestFrom_85 : decode cX0_fewestFrom 85 = .ok (.ireturn, 1) := by decide +kernel
theorem dX0_choose_0 : decode cX0_choose 0 = .ok (.iconst 1, 1) := by decide +kernel
theorem dX0_choose_1 : decode cX0_choose 1 = .ok (.istore_n 1, 1) := by decide +kernel
theorem dX0_choose_2 : decode cX0_choose 2 = .ok (.iload_n 1, 1) := by decide +kernel
theorem dX0_choose_3 : decode cX0_choose 3 = .ok (.aload_n 0, 1) := by decide +kernel
theorem dX0_choose_4 : decode cX0_choose 4 = .ok (.getfield 30, 3) := by decide +kernel
theorem dX0_choose_7 : decode cX0_choose 7 = .ok (.if_icmp .ge 62, 3) := by decide +kernel
theorem dX0_choose_10 : decode cX0_choose 10 = .ok (.aload_n 0, 1) := by decide +kernel
theorem dX0_choose_11 : decode cX0_choose 11 = .ok (.getfield 20, 3) := by decide +kernel
theorem dX0_choose_14 : decode cX0_choose 14 = .ok (.iload_n 1, 1) := by decide +kernel
theorem dX0_choose_15 : decode cX0_choose 15 = .ok (.iaload, 1) := by decide +kernel
theorem dX0_choose_16 : decode cX0_choose 16 = .ok (.aload_n 0, 1) := by decide +kernel
theorem dX0_choose_17 : decode cX0_choose 17 = .ok (.getfield 20, 3) := by decide +kernel
theorem dX0_choose_20 : decode cX0_choose 20 = .ok (.iload_n 1, 1) := by decide +kernel
theorem dX0_choose_21 : decode cX0_choose 21 = .ok (.iconst 1, 1) := by decide +kernel
theorem dX0_choose_22 : decode cX0_choose 22 = .ok (.isub, 1) := by decide +kernel
theorem dX0_choose_23 : decode cX0_choose 23 = .ok (.iaload, 1) := by decide +kernel
theorem dX0_choose_24 : decode cX0_choose 24 = .ok (.if_icmp .ge 39, 3) := by decide +kernel
theorem dX0_choose_27 : decode cX0_choose 27 = .ok (.aload_n 0, 1) := by decide +kernel
theorem dX0_choose_28 : decode cX0_choose 28 = .ok (.getfield 38, 3) := by decide +kernel
theorem dX0_choose_31 : decode cX0_choose 31 = .ok (.bipush 60, 2) := by decide +kernel
theorem dX0_choose_33 : decode cX0_choose 33 = .ok (.if_icmp .ge 30, 3) := by decide +kernel
theorem dX0_choose_36 : decode cX0_choose 36 = .ok (.aload_n 0, 1) := by decide +kernel
theorem dX0_choose_37 : decode cX0_choose 37 = .ok (.getfield 23, 3) := by decide +kernel
theorem dX0_choose_40 : decode cX0_choose 40 = .ok (.aload_n 0, 1) := by decide +kernel
theorem dX0_choose_41 : decode cX0_choose 41 = .ok (.getfield 38, 3) := by decide +kernel
theorem dX0_choose_44 : decode cX0_choose 44 = .ok (.aload_n 0, 1) := by decide +kernel
theorem dX0_choose_45 : decode cX0_choose 45 = .ok (.getfield 17, 3) := by decide +kernel
theorem dX0_choose_48 : decode cX0_choose 48 = .ok (.iload_n 1, 1) := by decide +kernel
theorem dX0_choose_49 : decode cX0_choose 49 = .ok (.iconst 1, 1) := by decide +kernel
theorem dX0_choose_50 : decode cX0_choose 50 = .ok (.isub, 1) := by decide +kernel
theorem dX0_choose_51 : decode cX0_choose 51 = .ok (.iaload, 1) := by decide +kernel
theorem dX0_choose_52 : decode cX0_choose 52 = .ok (.iastore, 1) := by decide +kernel
theorem dX0_choose_53 : decode cX0_choose 53 = .ok (.aload_n 0, 1) := by decide +kernel
theorem dX0_choose_54 : decode cX0_choose 54 = .ok (.dup, 1) := by decide +kernel
theorem dX0_choose_55 : decode cX0_choose 55 = .ok (.getfield 38, 3) := by decide +kernel
theorem dX0_choose_58 : decode cX0_choose 58 = .ok (.iconst 1, 1) := by decide +kernel
theorem dX0_choose_59 : decode cX0_choose 59 = .ok (.iadd, 1) := by decide +kernel
theorem dX0_choose_60 : decode cX0_choose 60 = .ok (.putfield 38, 3) := by decide +kernel
theorem dX0_choose_63 : decode cX0_choose 63 = .ok (.iinc 1 1, 3) := by decide +kernel
theorem dX0_choose_66 : decode cX0_choose 66 = .ok (.goto (-64), 3) := by decide +kernel
theorem dX0_choose_69 : decode cX0_choose 69 = .ok (.return_, 1) := by decide +kernel
theorem dX1_init_0 : decode cX1_init 0 = .ok (.aload_n 0, 1) := by decide +kernel
theorem dX1_init_1 : decode cX1_init 1 = .ok (.invokespecial 3, 3) := by decide +kernel
theorem dX1_init_4 : decode cX1_init 4 = .ok (.aload_n 0, 1) := by decide +kernel
theorem dX1_init_5 : decode cX1_init 5 = .ok (.bipush 8, 2) := by decide +kernel
theorem dX1_init_7 : decode cX1_init 7 = .ok (.newarray .int, 2) := by decide +kernel
theorem dX1_init_9 : decode cX1_init 9 = .ok (.putfield 9, 3) := by decide +kernel
theorem dX1_init_12 : decode cX1_init 12 = .ok (.return_, 1) := by decide +kernel
theorem dX1_listen_0 : decode cX1_listen 0 = .ok (.aload_n 0, 1) := by decide +kernel
theorem dX1_listen_1 : decode cX1_listen 1 = .ok (.aload_n 1, 1) := by decide +kernel
theorem dX1_listen_2 : decode cX1_listen 2 = .ok (.invokevirtual 15, 3) := by decide +kernel
theorem dX1_listen_5 : decode cX1_listen 5 = .ok (.putfield 21, 3) := by decide +kernel
theorem dX1_listen_8 : decode cX1_listen 8 = .ok (.iconst 0, 1) := by decide +kernel
theorem dX1_listen_9 : decode cX1_listen 9 = .ok (.istore_n 3, 1) := by decide +kernel
theorem dX1_listen_10 : decode cX1_listen 10 = .ok (.iload_n 3, 1) := by decide +kernel
theorem dX1_listen_11 : decode cX1_listen 11 = .ok (.bipush 8, 2) := by decide +kernel
theorem dX1_listen_13 : decode cX1_listen 13 = .ok (.if_icmp .ge 33, 3) := by decide +kernel
theorem dX1_listen_16 : decode cX1_listen 16 = .ok (.aload_n 0, 1) := by decide +kernel
theorem dX1_listen_17 : decode cX1_listen 17 = .ok (.getfield 9, 3) := by decide +kernel
theorem dX1_listen_20 : decode cX1_listen 20 = .ok (.iload_n 3, 1) := by decide +kernel
theorem dX1_listen_21 : decode cX1_listen 21 = .ok (.aload_n 1, 1) := by decide +kernel
theorem dX1_listen_22 : decode cX1_listen 22 = .ok (.iload_n 3, 1) := by decide +kernel
theorem dX1_listen_23 : decode cX1_listen 23 = .ok (.invokevirtual 25, 3) := by decide +kernel
theorem dX1_listen_26 : decode cX1_listen 26 = .ok (.ifCond .eq 12, 3) := by decide +kernel
theorem dX1_listen_29 : decode cX1_listen 29 = .ok (.aload_n 1, 1) := by decide +kernel
theorem dX1_listen_30 : decode cX1_listen 30 = .ok (.iload_n 3, 1) := by decide +kernel
theorem dX1_listen_31 : decode cX1_listen 31 = .ok (.iload_n 2, 1) := by decide +kernel
theorem dX1_listen_32 : decode cX1_listen 32 = .ok (.invokevirtual 29, 3) := by decide +kernel
theorem dX1_listen_35 : decode cX1_listen 35 = .ok (.goto 4, 3) := by decide +kernel
theorem dX1_listen_38 : decode cX1_listen 38 = .ok (.iconst 0, 1) := by decide +kernel
theorem dX1_listen_39 : decode cX1_listen 39 = .ok (.iastore, 1) := by decide +kernel
theorem dX1_listen_40 : decode cX1_listen 40 = .ok (.iinc 3 1, 3) := by decide +kernel
theorem dX1_listen_43 : decode cX1_listen 43 = .ok (.goto (-33), 3) := by decide +kernel
theorem dX1_listen_46 : decode cX1_listen 46 = .ok (.iconst 0, 1) := by decide +kernel
theorem dX1_listen_47 : decode cX1_listen 47 = .ok (.istore_n 3, 1) := by decide +kernel
theorem dX1_listen_48 : decode cX1_listen 48 = .ok (.iload_n 3, 1) := by decide +kernel
theorem dX1_listen_49 : decode cX1_listen 49 = .ok (.bipush 8, 2) := by decide +kernel
theorem dX1_listen_51 : decode cX1_listen 51 = .ok (.if_icmp .ge 55, 3) := by decide +kernel
theorem dX1_listen_54 : decode cX1_listen 54 = .ok (.iconst 0, 1) := by decide +kernel
theorem dX1_listen_55 : decode cX1_listen 55 = .ok (.istore 4, 2) := by decide +kernel
theorem dX1_listen_57 : decode cX1_listen 57 = .ok (.iload 4, 2) := by decide +kernel
theorem dX1_listen_59 : decode cX1_listen 59 = .ok (.bipush 8, 2) := by decide +kernel
theorem dX1_listen_61 : decode cX1_listen 61 = .ok (.if_icmp .ge 39, 3) := by decide +kernel
theorem dX1_listen_64 : decode cX1_listen 64 = .ok (.aload_n 0, 1) := by decide +kernel
theorem dX1_listen_65 : decode cX1_listen 65 = .ok (.getfield 9, 3) := by decide +kernel
theorem dX1_listen_68 : decode cX1_listen 68 = .ok (.iload 4, 2) := by decide +kernel
theorem dX1_listen_70 : decode cX1_listen 70 = .ok (.iaload, 1) := by decide +kernel
theorem dX1_listen_71 : decode cX1_listen 71 = .ok (.iload_n 3, 1) := by decide +kernel
theorem dX1_listen_72 : decode cX1_listen 72 = .ok (.ishr, 1) := by decide +kernel
theorem dX1_listen_73 : decode cX1_listen 73 = .ok (.iconst 1, 1) := by decide +kernel
theorem dX1_listen_74 : decode cX1_listen 74 = .ok (.iand, 1) := by decide +kernel
theorem dX1_listen_75 : decode cX1_listen 75 = .ok (.ifCond .eq 19, 3) := by decide +kernel
theorem dX1_listen_78 : decode cX1_listen 78 = .ok (.aload_n 0, 1) := by decide +kernel
theorem dX1_listen_79 : decode cX1_listen 79 = .ok (.getfield 9, 3) := by decide +kernel
theorem dX1_listen_82 : decode cX1_listen 82 = .ok (.iload 4, 2) := by decide +kernel
theorem dX1_listen_84 : decode cX1_listen 84 = .ok (.dup2, 1) := by decide +kernel
theorem dX1_listen_85 : decode cX1_listen 85 = .ok (.iaload, 1) := by decide +kernel
theorem dX1_listen_86 : decode cX1_listen 86 = .ok (.aload_n 0, 1) := by decide +kernel
theorem dX1_listen_87 : decode cX1_listen 87 = .ok (.getfield 9, 3) := by decide +kernel
theorem dX1_listen_90 : decode cX1_listen 90 = .ok (.iload_n 3, 1) := by decide +kernel
theorem dX1_listen_91 : decode cX1_listen 91 = .ok (.iaload, 1) := by decide +kernel
theorem dX1_listen_92 : decode cX1_listen 92 = .ok (.ior, 1) := by decide +kernel
theorem dX1_listen_93 : decode cX1_listen 93 = .ok (.iastore, 1) := by decide +kernel
theorem dX1_listen_94 : decode cX1_listen 94 = .ok (.iinc 4 1, 3) := by decide +kernel
theorem dX1_listen_97 : decode cX1_listen 97 = .ok (.goto (-40), 3) := by decide +kernel
theorem dX1_listen_100 : decode cX1_listen 100 = .ok (.iinc 3 1, 3) := by decide +kernel
theorem dX1_listen_103 : decode cX1_listen 103 = .ok (.goto (-55), 3) := by decide +kernel
theorem dX1_listen_106 : decode cX1_listen 106 = .ok (.return_, 1) := by decide +kernel
theorem dX1_followersOf_0 : decode cX1_followersOf 0 = .ok (.iconst 0, 1) := by decide +kernel
theorem dX1_followersOf_1 : decode cX1_followersOf 1 = .ok (.istore_n 2, 1) := by decide +kernel
theorem dX1_followersOf_2 : decode cX1_followersOf 2 = .ok (.iconst 0, 1) := by decide +kernel
theorem dX1_followersOf_3 : decode cX1_followersOf 3 = .ok (.istore_n 3, 1) := by decide +kernel
theorem dX1_followersOf_4 : decode cX1_followersOf 4 = .ok (.iload_n 3, 1) := by decide +kernel
theorem dX1_followersOf_5 : decode cX1_followersOf 5 = .ok (.bipush 8, 2) := by decide +kernel
theorem dX1_followersOf_7 : decode cX1_followersOf 7 = .ok (.if_icmp .ge 33, 3) := by decide +kernel
theorem dX1_followersOf_10 : decode cX1_followersOf 10 = .ok (.iload_n 3, 1) := by decide +kernel
theorem dX1_followersOf_11 : decode cX1_followersOf 11 = .ok (.iload_n 1, 1) := by decide +kernel
theorem dX1_followersOf_12 : decode cX1_followersOf 12 = .ok (.if_icmp .eq 22, 3) := by decide +kernel
theorem dX1_followersOf_15 : decode cX1_followersOf 15 = .ok (.aload_n 0, 1) := by decide +kernel
theorem dX1_followersOf_16 : decode cX1_followersOf 16 = .ok (.getfield 9, 3) := by decide +kernel
theorem dX1_followersOf_19 : decode cX1_followersOf 19 = .ok (.iload_n 3, 1) := by decide +kernel
theorem dX1_followersOf_20 : decode cX1_followersOf 20 = .ok (.iaload, 1) := by decide +kernel
theorem dX1_followersOf_21 : decode cX1_followersOf 21 = .ok (.iload_n 1, 1) := by decide +kernel
theorem dX1_followersOf_22 : decode cX1_followersOf 22 = .ok (.ishr, 1) := by decide +kernel
theorem dX1_followersOf_23 : decode cX1_followersOf 23 = .ok (.iconst 1, 1) := by decide +kernel
theorem dX1_followersOf_24 : decode cX1_followersOf 24 = .ok (.iand, 1) := by decide +kernel
theorem dX1_followersOf_25 : decode cX1_followersOf 25 = .ok (.ifCond .eq 9, 3) := by decide +kernel
theorem dX1_followersOf_28 : decode cX1_followersOf 28 = .ok (.iload_n 2, 1) := by decide +kernel
theorem dX1_followersOf_29 : decode cX1_followersOf 29 = .ok (.iconst 1, 1) := by decide +kernel
theorem dX1_followersOf_30 : decode cX1_followersOf 30 = .ok (.iload_n 3, 1) := by decide +kernel
theorem dX1_followersOf_31 : decode cX1_followersOf 31 = .ok (.ishl, 1) := by decide +kernel
theorem dX1_followersOf_32 : decode cX1_followersOf 32 = .ok (.ior, 1) := by decide +kernel
theorem dX1_followersOf_33 : decode cX1_followersOf 33 = .ok (.istore_n 2, 1) := by decide +kernel
theorem dX1_followersOf_34 : decode cX1_followersOf 34 = .ok (.iinc 3 1, 3) := by decide +kernel
theorem dX1_followersOf_37 : decode cX1_followersOf 37 = .ok (.goto (-33), 3) := by decide +kernel
theorem dX1_followersOf_40 : decode cX1_followersOf 40 = .ok (.iload_n 2, 1) := by decide +kernel
theorem dX1_followersOf_41 : decode cX1_followersOf 41 = .ok (.ireturn, 1) := by decide +kernel
theorem dX1_groupOf_0 : decode cX1_groupOf 0 = .ok (.iload_n 1, 1) := by decide +kernel
theorem dX1_groupOf_1 : decode cX1_groupOf 1 = .ok (.invokestatic 33, 3) := by decide +kernel
theorem dX1_groupOf_4 : decode cX1_groupOf 4 = .ok (.ifCond .eq 27, 3) := by decide +kernel
theorem dX1_groupOf_7 : decode cX1_groupOf 7 = .ok (.aload_n 0, 1) := by decide +kernel
theorem dX1_groupOf_8 : decode cX1_groupOf 8 = .ok (.iload_n 1, 1) := by decide +kernel
theorem dX1_groupOf_9 : decode cX1_groupOf 9 = .ok (.invokevirtual 36, 3) := by decide +kernel
theorem dX1_groupOf_12 : decode cX1_groupOf 12 = .ok (.aload_n 0, 1) := by decide +kernel
theorem dX1_groupOf_13 : decode cX1_groupOf 13 = .ok (.getfield 9, 3) := by decide +kernel
theorem dX1_groupOf_16 : decode cX1_groupOf 16 = .ok (.iload_n 1, 1) := by decide +kernel
theorem dX1_groupOf_17 : decode cX1_groupOf 17 = .ok (.iaload, 1) := by decide +kernel
theorem dX1_groupOf_18 : decode cX1_groupOf 18 = .ok (.iand, 1) := by decide +kernel
theorem dX1_groupOf_19 : decode cX1_groupOf 19 = .ok (.iconst 1, 1) := by decide +kernel
theorem dX1_groupOf_20 : decode cX1_groupOf 20 = .ok (.iload_n 1, 1) := by decide +kernel
theorem dX1_groupOf_21 : decode cX1_groupOf 21 = .ok (.ishl, 1) := by decide +kernel
theorem dX1_groupOf_22 : decode cX1_groupOf 22 = .ok (.ior, 1) := by decide +kernel
theorem dX1_groupOf_23 : decode cX1_groupOf 23 = .ok (.aload_n 0, 1) := by decide +kernel
theorem dX1_groupOf_24 : decode cX1_groupOf 24 = .ok (.getfield 21, 3) := by decide +kernel
theorem dX1_groupOf_27 : decode cX1_groupOf 27 = .ok (.iand, 1) := by decide +kernel
theorem dX1_groupOf_28 : decode cX1_groupOf 28 = .ok (.goto 4, 3) := by decide +kernel
theorem dX1_groupOf_31 : decode cX1_groupOf 31 = .ok (.iconst 0, 1) := by decide +kernel
theorem dX1_groupOf_32 : decode cX1_groupOf 32 = .ok (.ireturn, 1) := by decide +kernel
theorem dX2_init_0 : decode cX2_init 0 = .ok (.aload_n 0, 1) := by decide +kernel
theorem dX2_init_1 : decode cX2_init 1 = .ok (.invokespecial 3, 3) := by decide +kernel
theorem dX2_init_4 : decode cX2_init 4 = .ok (.aload_n 0, 1) := by decide +kernel
theorem dX2_init_5 : decode cX2_init 5 = .ok (.aload_n 1, 1) := by decide +kernel
theorem dX2_init_6 : decode cX2_init 6 = .ok (.putfield 9, 3) := by decide +kernel
theorem dX2_init_9 : decode cX2_init 9 = .ok (.aload_n 0, 1) := by decide +kernel
theorem dX2_init_10 : decode cX2_init 10 = .ok (.bipush 8, 2) := by decide +kernel
theorem dX2_init_12 : decode cX2_init 12 = .ok (.newarray .int, 2) := by decide +kernel
theorem dX2_init_14 : decode cX2_init 14 = .ok (.putfield 15, 3) := by decide +kernel
theorem dX2_init_17 : decode cX2_init 17 = .ok (.aload_n 0, 1) := by decide +kernel
theorem dX2_init_18 : decode cX2_init 18 = .ok (.bipush 8, 2) := by decide +kernel
theorem dX2_init_20 : decode cX2_init 20 = .ok (.newarray .int, 2) := by decide +kernel
theorem dX2_init_22 : decode cX2_init 22 = .ok (.putfield 21, 3) := by decide +kernel
theorem dX2_init_25 : decode cX2_init 25 = .ok (.return_, 1) := by decide +kernel
theorem dX2_forget_0 : decode cX2_forget 0 = .ok (.aload_n 0, 1) := by decide +kernel
theorem dX2_forget_1 : decode cX2_forget 1 = .ok (.iconst 0, 1) := by decide +kernel
theorem dX2_forget_2 : decode cX2_forget 2 = .ok (.putfield 24, 3) := by decide +kernel
theorem dX2_forget_5 : decode cX2_forget 5 = .ok (.aload_n 0, 1) := by decide +kernel
theorem dX2_forget_6 : decode cX2_forget 6 = .ok (.iconst 0, 1) := by decide +kernel
theorem dX2_forget_7 : decode cX2_forget 7 = .ok (.putfield 28, 3) := by decide +kernel
theorem dX2_forget_10 : decode cX2_forget 10 = .ok (.aload_n 0, 1) := by decide +kernel
theorem dX2_forget_11 : decode cX2_forget 11 = .ok (.iconst 0, 1) := by decide +kernel
theorem dX2_forget_12 : decode cX2_forget 12 = .ok (.putfield 31, 3) := by decide +kernel
theorem dX2_forget_15 : decode cX2_forget 15 = .ok (.return_, 1) := by decide +kernel
theorem dX2_isDone_0 : decode cX2_isDone 0 = .ok (.iload_n 2, 1) := by decide +kernel
theorem dX2_isDone_1 : decode cX2_isDone 1 = .ok (.invokestatic 34, 3) := by decide +kernel
theorem dX2_isDone_4 : decode cX2_isDone 4 = .ok (.ifCond .eq 31, 3) := by decide +kernel
theorem dX2_isDone_7 : decode cX2_isDone 7 = .ok (.aload_n 1, 1) := by decide +kernel
theorem dX2_isDone_8 : decode cX2_isDone 8 = .ok (.getfield 38, 3) := by decide +kernel
theorem dX2_isDone_11 : decode cX2_isDone 11 = .ok (.iload_n 2, 1) := by decide +kernel
theorem dX2_isDone_12 : decode cX2_isDone 12 = .ok (.aaload, 1) := by decide +kernel
theorem dX2_isDone_13 : decode cX2_isDone 13 = .ok (.getfield 44, 3) := by decide +kernel
theorem dX2_isDone_16 : decode cX2_isDone 16 = .ok (.aload_n 0, 1) := by decide +kernel
theorem dX2_isDone_17 : decode cX2_isDone 17 = .ok (.getfield 9, 3) := by decide +kernel
theorem dX2_isDone_20 : decode cX2_isDone 20 = .ok (.getfield 49, 3) := by decide +kernel
theorem dX2_isDone_23 : decode cX2_isDone 23 = .ok (.iload_n 2, 1) := by decide +kernel
theorem dX2_isDone_24 : decode cX2_isDone 24 = .ok (.aaload, 1) := by decide +kernel
theorem dX2_isDone_25 : decode cX2_isDone 25 = .ok (.invokevirtual 55, 3) := by decide +kernel
theorem dX2_isDone_28 : decode cX2_isDone 28 = .ok (.if_icmp .lt 7, 3) := by decide +kernel
theorem dX2_isDone_31 : decode cX2_isDone 31 = .ok (.iconst 1, 1) := by decide +kernel
theorem dX2_isDone_32 : decode cX2_isDone 32 = .ok (.goto 4, 3) := by decide +kernel
theorem dX2_isDone_35 : decode cX2_isDone 35 = .ok (.iconst 0, 1) := by decide +kernel
theorem dX2_isDone_36 : decode cX2_isDone 36 = .ok (.ireturn, 1) := by decide +kernel
theorem dX2_doneBits_0 : decode cX2_doneBits 0 = .ok (.iconst 0, 1) := by decide +kernel
theorem dX2_doneBits_1 : decode cX2_doneBits 1 = .ok (.istore_n 2, 1) := by decide +kernel
theorem dX2_doneBits_2 : decode cX2_doneBits 2 = .ok (.iconst 0, 1) := by decide +kernel
theorem dX2_doneBits_3 : decode cX2_doneBits 3 = .ok (.istore_n 3, 1) := by decide +kernel
theorem dX2_doneBits_4 : decode cX2_doneBits 4 = .ok (.iload_n 3, 1) := by decide +kernel
theorem dX2_doneBits_5 : decode cX2_doneBits 5 = .ok (.bipush 8, 2) := by decide +kernel
theorem dX2_doneBits_7 : decode cX2_doneBits 7 = .ok (.if_icmp .ge 36, 3) := by decide +kernel
theorem dX2_doneBits_10 : decode cX2_doneBits 10 = .ok (.aload_n 1, 1) := by decide +kernel
theorem dX2_doneBits_11 : decode cX2_doneBits 11 = .ok (.getfield 38, 3) := by decide +kernel
theorem dX2_doneBits_14 : decode cX2_doneBits 14 = .ok (.iload_n 3, 1) := by decide +kernel
theorem dX2_doneBits_15 : decode cX2_doneBits 15 = .ok (.aaload, 1) := by decide +kernel
theorem dX2_doneBits_16 : decode cX2_doneBits 16 = .ok (.getfield 61, 3) := by decide +kernel
theorem dX2_doneBits_19 : decode cX2_doneBits 19 = .ok (.ifCond .eq 18, 3) := by decide +kernel
theorem dX2_doneBits_22 : decode cX2_doneBits 22 = .ok (.aload_n 0, 1) := by decide +kernel
theorem dX2_doneBits_23 : decode cX2_doneBits 23 = .ok (.aload_n 1, 1) := by decide +kernel
theorem dX2_doneBits_24 : decode cX2_doneBits 24 = .ok (.iload_n 3, 1) := by decide +kernel
theorem dX2_doneBits_25 : decode cX2_doneBits 25 = .ok (.invokevirtual 65, 3) := by decide +kernel
theorem dX2_doneBits_28 : decode cX2_doneBits 28 = .ok (.ifCond .eq 9, 3) := by decide +kernel
theorem dX2_doneBits_31 : decode cX2_doneBits 31 = .ok (.iload_n 2, 1) := by decide +kernel
theorem dX2_doneBits_32 : decode cX2_doneBits 32 = .ok (.iconst 1, 1) := by decide +kernel
theorem dX2_doneBits_33 : decode cX2_doneBits 33 = .ok (.iload_n 3, 1) := by decide +kernel
theorem dX2_doneBits_34 : decode cX2_doneBits 34 = .ok (.ishl, 1) := by decide +kernel
theorem dX2_doneBits_35 : decode cX2_doneBits 35 = .ok (.ior, 1) := by decide +kernel
theorem dX2_doneBits_36 : decode cX2_doneBits 36 = .ok (.istore_n 2, 1) := by decide +kernel
theorem dX2_doneBits_37 : decode cX2_doneBits 37 = .ok (.iinc 3 1, 3) := by decide +kernel
theorem dX2_doneBits_40 : decode cX2_doneBits 40 = .ok (.goto (-36), 3) := by decide +kernel
theorem dX2_doneBits_43 : decode cX2_doneBits 43 = .ok (.iload_n 2, 1) := by decide +kernel
theorem dX2_doneBits_44 : decode cX2_doneBits 44 = .ok (.ireturn, 1) := by decide +kernel
theorem dX2_noteNow_0 : decode cX2_noteNow 0 = .ok (.aload_n 1, 1) := by decide +kernel
theorem dX2_noteNow_1 : decode cX2_noteNow 1 = .ok (.iload_n 2, 1) := by decide +kernel
theorem dX2_noteNow_2 : decode cX2_noteNow 2 = .ok (.invokevirtual 69, 3) := by decide +kernel
theorem dX2_noteNow_5 : decode cX2_noteNow 5 = .ok (.ifCond .eq 15, 3) := by decide +kernel
theorem dX2_noteNow_8 : decode cX2_noteNow 8 = .ok (.aload_n 1, 1) := by decide +kernel
theorem dX2_noteNow_9 : decode cX2_noteNow 9 = .ok (.getfield 38, 3) := by decide +kernel
theorem dX2_noteNow_12 : decode cX2_noteNow 12 = .ok (.iload_n 2, 1) := by decide +kernel
theorem dX2_noteNow_13 : decode cX2_noteNow 13 = .ok (.aaload, 1) := by decide +kernel
theorem dX2_noteNow_14 : decode cX2_noteNow 14 = .ok (.getfield 72, 3) := by decide +kernel
theorem dX2_noteNow_17 : decode cX2_noteNow 17 = .ok (.ifCond .eq 5, 3) := by decide +kernel
theorem dX2_noteNow_20 : decode cX2_noteNow 20 = .ok (.iconst 0, 1) := by decide +kernel
theorem dX2_noteNow_21 : decode cX2_noteNow 21 = .ok (.ireturn, 1) := by decide +kernel
theorem dX2_noteNow_22 : decode cX2_noteNow 22 = .ok (.aload_n 0, 1) := by decide +kernel
theorem dX2_noteNow_23 : decode cX2_noteNow 23 = .ok (.getfield 9, 3) := by decide +kernel
theorem dX2_noteNow_26 : decode cX2_noteNow 26 = .ok (.getfield 49, 3) := by decide +kernel
theorem dX2_noteNow_29 : decode cX2_noteNow 29 = .ok (.iload_n 2, 1) := by decide +kernel
theorem dX2_noteNow_30 : decode cX2_noteNow 30 = .ok (.aaload, 1) := by decide +kernel
theorem dX2_noteNow_31 : decode cX2_noteNow 31 = .ok (.aload_n 1, 1) := by decide +kernel
theorem dX2_noteNow_32 : decode cX2_noteNow 32 = .ok (.getfield 38, 3) := by decide +kernel
theorem dX2_noteNow_35 : decode cX2_noteNow 35 = .ok (.iload_n 2, 1) := by decide +kernel
theorem dX2_noteNow_36 : decode cX2_noteNow 36 = .ok (.aaload, 1) := by decide +kernel
theorem dX2_noteNow_37 : decode cX2_noteNow 37 = .ok (.getfield 44, 3) := by decide +kernel
theorem dX2_noteNow_40 : decode cX2_noteNow 40 = .ok (.invokevirtual 75, 3) := by decide +kernel
theorem dX2_noteNow_43 : decode cX2_noteNow 43 = .ok (.ireturn, 1) := by decide +kernel
theorem dX2_apart_0 : decode cX2_apart 0 = .ok (.iconst 0, 1) := by decide +kernel
theorem dX2_apart_1 : decode cX2_apart 1 = .ok (.istore_n 2, 1) := by decide +kernel
theorem dX2_apart_2 : decode cX2_apart 2 = .ok (.bipush 60, 2) := by decide +kernel
theorem dX2_apart_4 : decode cX2_apart 4 = .ok (.istore_n 3, 1) := by decide +kernel
theorem dX2_apart_5 : decode cX2_apart 5 = .ok (.iconst 0, 1) := by decide +kernel
theorem dX2_apart_6 : decode cX2_apart 6 = .ok (.istore 4, 2) := by decide +kernel
theorem dX2_apart_8 : decode cX2_apart 8 = .ok (.iload 4, 2) := by decide +kernel
theorem dX2_apart_10 : decode cX2_apart 10 = .ok (.bipush 8, 2) := by decide +kernel
theorem dX2_apart_12 : decode cX2_apart 12 = .ok (.if_icmp .ge 62, 3) := by decide +kernel
theorem dX2_apart_15 : decode cX2_apart 15 = .ok (.aload_n 1, 1) := by decide +kernel
theorem dX2_apart_16 : decode cX2_apart 16 = .ok (.getfield 38, 3) := by decide +kernel
theorem dX2_apart_19 : decode cX2_apart 19 = .ok (.iload 4, 2) := by decide +kernel
theorem dX2_apart_21 : decode cX2_apart 21 = .ok (.aaload, 1) := by decide +kernel
theorem dX2_apart_22 : decode cX2_apart 22 = .ok (.getfield 61, 3) := by decide +kernel
theorem dX2_apart_25 : decode cX2_apart 25 = .ok (.ifCond .eq 43, 3) := by decide +kernel
theorem dX2_apart_28 : decode cX2_apart 28 = .ok (.aload_n 0, 1) := by decide +kernel
theorem dX2_apart_29 : decode cX2_apart 29 = .ok (.aload_n 1, 1) := by decide +kernel
theorem dX2_apart_30 : decode cX2_apart 30 = .ok (.iload 4, 2) := by decide +kernel
theorem dX2_apart_32 : decode cX2_apart 32 = .ok (.invokevirtual 65, 3) := by decide +kernel
theorem dX2_apart_35 : decode cX2_apart 35 = .ok (.ifCond .ne 33, 3) := by decide +kernel
theorem dX2_apart_38 : decode cX2_apart 38 = .ok (.iload_n 2, 1) := by decide +kernel
theorem dX2_apart_39 : decode cX2_apart 39 = .ok (.aload_n 1, 1) := by decide +kernel
theorem dX2_apart_40 : decode cX2_apart 40 = .ok (.getfield 38, 3) := by decide +kernel
theorem dX2_apart_43 : decode cX2_apart 43 = .ok (.iload 4, 2) := by decide +kernel
theorem dX2_apart_45 : decode cX2_apart 45 = .ok (.aaload, 1) := by decide +kernel
theorem dX2_apart_46 : decode cX2_apart 46 = .ok (.getfield 44, 3) := by decide +kernel
theorem dX2_apart_49 : decode cX2_apart 49 = .ok (.invokestatic 79, 3) := by decide +kernel
theorem dX2_apart_52 : decode cX2_apart 52 = .ok (.istore_n 2, 1) := by decide +kernel
theorem dX2_apart_53 : decode cX2_apart 53 = .ok (.iload_n 3, 1) := by decide +kernel
theorem dX2_apart_54 : decode cX2_apart 54 = .ok (.aload_n 1, 1) := by decide +kernel
theorem dX2_apart_55 : decode cX2_apart 55 = .ok (.getfield 38, 3) := by decide +kernel
theorem dX2_apart_58 : decode cX2_apart 58 = .ok (.iload 4, 2) := by decide +kernel
theorem dX2_apart_60 : decode cX2_apart 60 = .ok (.aaload, 1) := by decide +kernel
theorem dX2_apart_61 : decode cX2_apart 61 = .ok (.getfield 44, 3) := by decide +kernel
theorem dX2_apart_64 : decode cX2_apart 64 = .ok (.invokestatic 85, 3) := by decide +kernel
theorem dX2_apart_67 : decode cX2_apart 67 = .ok (.istore_n 3, 1) := by decide +kernel
theorem dX2_apart_68 : decode cX2_apart 68 = .ok (.iinc 4 1, 3) := by decide +kernel
theorem dX2_apart_71 : decode cX2_apart 71 = .ok (.goto (-63), 3) := by decide +kernel
theorem dX2_apart_74 : decode cX2_apart 74 = .ok (.iconst 0, 1) := by decide +kernel
theorem dX2_apart_75 : decode cX2_apart 75 = .ok (.iload_n 2, 1) := by decide +kernel
theorem dX2_apart_76 : decode cX2_apart 76 = .ok (.iload_n 3, 1) := by decide +kernel
theorem dX2_apart_77 : decode cX2_apart 77 = .ok (.isub, 1) := by decide +kernel
theorem dX2_apart_78 : decode cX2_apart 78 = .ok (.invokestatic 79, 3) := by decide +kernel
theorem dX2_apart_81 : decode cX2_apart 81 = .ok (.ireturn, 1) := by decide +kernel
theorem dX2_step_0 : decode cX2_step 0 = .ok (.aload_n 1, 1) := by decide +kernel
theorem dX2_step_1 : decode cX2_step 1 = .ok (.getfield 88, 3) := by decide +kernel
theorem dX2_step_4 : decode cX2_step 4 = .ok (.ldc 91, 2) := by decide +kernel
theorem dX2_step_6 : decode cX2_step 6 = .ok (.if_icmp .lt 5, 3) := by decide +kernel
theorem dX2_step_9 : decode cX2_step 9 = .ok (.iconst 0, 1) := by decide +kernel
theorem dX2_step_10 : decode cX2_step 10 = .ok (.ireturn, 1) := by decide +kernel
theorem dX2_step_11 : decode cX2_step 11 = .ok (.iconst 0, 1) := by decide +kernel
theorem dX2_step_12 : decode cX2_step 12 = .ok (.istore_n 2, 1) := by decide +kernel
theorem dX2_step_13 : decode cX2_step 13 = .ok (.iload_n 2, 1) := by decide +kernel
theorem dX2_step_14 : decode cX2_step 14 = .ok (.bipush 8, 2) := by decide +kernel
theorem dX2_step_16 : decode cX2_step 16 = .ok (.if_icmp .ge 24, 3) := by decide +kernel
theorem dX2_step_19 : decode cX2_step 19 = .ok (.aload_n 0, 1) := by decide +kernel
theorem dX2_step_20 : decode cX2_step 20 = .ok (.getfield 15, 3) := by decide +kernel
theorem dX2_step_23 : decode cX2_step 23 = .ok (.iload_n 2, 1) := by decide +kernel
theorem dX2_step_24 : decode cX2_step 24 = .ok (.aload_n 1, 1) := by decide +kernel
theorem dX2_step_25 : decode cX2_step 25 = .ok (.getfield 38, 3) := by decide +kernel
theorem dX2_step_28 : decode cX2_step 28 = .ok (.iload_n 2, 1) := by decide +kernel
theorem dX2_step_29 : decode cX2_step 29 = .ok (.aaload, 1) := by decide +kernel
theorem dX2_step_30 : decode cX2_step 30 = .ok (.getfield 44, 3) := by decide +kernel
theorem dX2_step_33 : decode cX2_step 33 = .ok (.iastore, 1) := by decide +kernel
theorem dX2_step_34 : decode cX2_step 34 = .ok (.iinc 2 1, 3) := by decide +kernel
theorem dX2_step_37 : decode cX2_step 37 = .ok (.goto (-24), 3) := by decide +kernel
theorem dX2_step_40 : decode cX2_step 40 = .ok (.iconst 0, 1) := by decide +kernel
theorem dX2_step_41 : decode cX2_step 41 = .ok (.istore_n 2, 1) := by decide +kernel
theorem dX2_step_42 : decode cX2_step 42 = .ok (.iload_n 2, 1) := by decide +kernel
theorem dX2_step_43 : decode cX2_step 43 = .ok (.bipush 8, 2) := by decide +kernel
theorem dX2_step_45 : decode cX2_step 45 = .ok (.if_icmp .ge 58, 3) := by decide +kernel
theorem dX2_step_48 : decode cX2_step 48 = .ok (.aload_n 1, 1) := by decide +kernel
theorem dX2_step_49 : decode cX2_step 49 = .ok (.getfield 38, 3) := by decide +kernel
theorem dX2_step_52 : decode cX2_step 52 = .ok (.iload_n 2, 1) := by decide +kernel
theorem dX2_step_53 : decode cX2_step 53 = .ok (.aaload, 1) := by decide +kernel
theorem dX2_step_54 : decode cX2_step 54 = .ok (.getfield 61, 3) := by decide +kernel
theorem dX2_step_57 : decode cX2_step 57 = .ok (.ifCond .eq 40, 3) := by decide +kernel
theorem dX2_step_60 : decode cX2_step 60 = .ok (.aload_n 0, 1) := by decide +kernel
theorem dX2_step_61 : decode cX2_step 61 = .ok (.aload_n 1, 1) := by decide +kernel
theorem dX2_step_62 : decode cX2_step 62 = .ok (.iload_n 2, 1) := by decide +kernel
theorem dX2_step_63 : decode cX2_step 63 = .ok (.invokevirtual 65, 3) := by decide +kernel
theorem dX2_step_66 : decode cX2_step 66 = .ok (.ifCond .ne 31, 3) := by decide +kernel
theorem dX2_step_69 : decode cX2_step 69 = .ok (.aload_n 0, 1) := by decide +kernel
theorem dX2_step_70 : decode cX2_step 70 = .ok (.aload_n 1, 1) := by decide +kernel
theorem dX2_step_71 : decode cX2_step 71 = .ok (.iload_n 2, 1) := by decide +kernel
theorem dX2_step_72 : decode cX2_step 72 = .ok (.invokevirtual 92, 3) := by decide +kernel
theorem dX2_step_75 : decode cX2_step 75 = .ok (.ifCond .eq 22, 3) := by decide +kernel
theorem dX2_step_78 : decode cX2_step 78 = .ok (.aload_n 0, 1) := by decide +kernel
theorem dX2_step_79 : decode cX2_step 79 = .ok (.aload_n 1, 1) := by decide +kernel
theorem dX2_step_80 : decode cX2_step 80 = .ok (.getfield 38, 3) := by decide +kernel
theorem dX2_step_83 : decode cX2_step 83 = .ok (.iload_n 2, 1) := by decide +kernel
theorem dX2_step_84 : decode cX2_step 84 = .ok (.aaload, 1) := by decide +kernel
theorem dX2_step_85 : decode cX2_step 85 = .ok (.aload_n 0, 1) := by decide +kernel
theorem dX2_step_86 : decode cX2_step 86 = .ok (.getfield 9, 3) := by decide +kernel
theorem dX2_step_89 : decode cX2_step 89 = .ok (.getfield 49, 3) := by decide +kernel
theorem dX2_step_92 : decode cX2_step 92 = .ok (.iload_n 2, 1) := by decide +kernel
theorem dX2_step_93 : decode cX2_step 93 = .ok (.aaload, 1) := by decide +kernel
theorem dX2_step_94 : decode cX2_step 94 = .ok (.invokevirtual 95, 3) := by decide +kernel
theorem dX2_step_97 : decode cX2_step 97 = .ok (.iinc 2 1, 3) := by decide +kernel
theorem dX2_step_100 : decode cX2_step 100 = .ok (.goto (-58), 3) := by decide +kernel
theorem dX2_step_103 : decode cX2_step 103 = .ok (.aload_n 1, 1) := by decide +kernel
theorem dX2_step_104 : decode cX2_step 104 = .ok (.dup, 1) := by decide +kernel
theorem dX2_step_105 : decode cX2_step 105 = .ok (.getfield 88, 3) := by decide +kernel
theorem dX2_step_108 : decode cX2_step 108 = .ok (.iconst 1, 1) := by decide +kernel
theorem dX2_step_109 : decode cX2_step 109 = .ok (.iadd, 1) := by decide +kernel
theorem dX2_step_110 : decode cX2_step 110 = .ok (.putfield 88, 3) := by decide +kernel
theorem dX2_step_113 : decode cX2_step 113 = .ok (.iconst 1, 1) := by decide +kernel
theorem dX2_step_114 : decode cX2_step 114 = .ok (.ireturn, 1) := by decide +kernel
theorem dX2_goesOn_0 : decode cX2_goesOn 0 = .ok (.iload_n 2, 1) := by decide +kernel
theorem dX2_goesOn_1 : decode cX2_goesOn 1 = .ok (.invokestatic 34, 3) := by decide +kernel
theorem dX2_goesOn_4 : decode cX2_goesOn 4 = .ok (.ifCond .ne 5, 3) := by decide +kernel
theorem dX2_goesOn_7 : decode cX2_goesOn 7 = .ok (.iconst 0, 1) := by decide +kernel
theorem dX2_goesOn_8 : decode cX2_goesOn 8 = .ok (.ireturn, 1) := by decide +kernel
theorem dX2_goesOn_9 : decode cX2_goesOn 9 = .ok (.aload_n 1, 1) := by decide +kernel
theorem dX2_goesOn_10 : decode cX2_goesOn 10 = .ok (.getfield 38, 3) := by decide +kernel
theorem dX2_goesOn_13 : decode cX2_goesOn 13 = .ok (.iload_n 2, 1) := by decide +kernel
theorem dX2_goesOn_14 : decode cX2_goesOn 14 = .ok (.aaload, 1) := by decide +kernel
theorem dX2_goesOn_15 : decode cX2_goesOn 15 = .ok (.astore_n 3, 1) := by decide +kernel
theorem dX2_goesOn_16 : decode cX2_goesOn 16 = .ok (.aload_n 3, 1) := by decide +kernel
theorem dX2_goesOn_17 : decode cX2_goesOn 17 = .ok (.getfield 72, 3) := by decide +kernel
theorem dX2_goesOn_20 : decode cX2_goesOn 20 = .ok (.ifCond .eq 40, 3) := by decide +kernel
theorem dX2_goesOn_23 : decode cX2_goesOn 23 = .ok (.aload_n 3, 1) := by decide +kernel
theorem dX2_goesOn_24 : decode cX2_goesOn 24 = .ok (.aload_n 0, 1) := by decide +kernel
theorem dX2_goesOn_25 : decode cX2_goesOn 25 = .ok (.aload_n 1, 1) := by decide +kernel
theorem dX2_goesOn_26 : decode cX2_goesOn 26 = .ok (.aload_n 0, 1) := by decide +kernel
theorem dX2_goesOn_27 : decode cX2_goesOn 27 = .ok (.getfield 9, 3) := by decide +kernel
theorem dX2_goesOn_30 : decode cX2_goesOn 30 = .ok (.getfield 49, 3) := by decide +kernel
theorem dX2_goesOn_33 : decode cX2_goesOn 33 = .ok (.iload_n 2, 1) := by decide +kernel
theorem dX2_goesOn_34 : decode cX2_goesOn 34 = .ok (.aaload, 1) := by decide +kernel
theorem dX2_goesOn_35 : decode cX2_goesOn 35 = .ok (.aload_n 0, 1) := by decide +kernel
theorem dX2_goesOn_36 : decode cX2_goesOn 36 = .ok (.getfield 15, 3) := by decide +kernel
theorem dX2_goesOn_39 : decode cX2_goesOn 39 = .ok (.iload_n 2, 1) := by decide +kernel
theorem dX2_goesOn_40 : decode cX2_goesOn 40 = .ok (.iaload, 1) := by decide +kernel
theorem dX2_goesOn_41 : decode cX2_goesOn 41 = .ok (.invokevirtual 99, 3) := by decide +kernel
theorem dX2_goesOn_44 : decode cX2_goesOn 44 = .ok (.invokevirtual 102, 3) := by decide +kernel
theorem dX2_goesOn_47 : decode cX2_goesOn 47 = .ok (.ifCond .ne 7, 3) := by decide +kernel
theorem dX2_goesOn_50 : decode cX2_goesOn 50 = .ok (.iconst 1, 1) := by decide +kernel
theorem dX2_goesOn_51 : decode cX2_goesOn 51 = .ok (.goto 4, 3) := by decide +kernel
theorem dX2_goesOn_54 : decode cX2_goesOn 54 = .ok (.iconst 0, 1) := by decide +kernel
theorem dX2_goesOn_55 : decode cX2_goesOn 55 = .ok (.putfield 72, 3) := by decide +kernel
theorem dX2_goesOn_58 : decode cX2_goesOn 58 = .ok (.iconst 0, 1) := by decide +kernel
theorem dX2_goesOn_59 : decode cX2_goesOn 59 = .ok (.ireturn, 1) := by decide +kernel
theorem dX2_goesOn_60 : decode cX2_goesOn 60 = .ok (.aload_n 0, 1) := by decide +kernel
theorem dX2_goesOn_61 : decode cX2_goesOn 61 = .ok (.aload_n 1, 1) := by decide +kernel
theorem dX2_goesOn_62 : decode cX2_goesOn 62 = .ok (.iload_n 2, 1) := by decide +kernel
theorem dX2_goesOn_63 : decode cX2_goesOn 63 = .ok (.invokevirtual 105, 3) := by decide +kernel
theorem dX2_goesOn_66 : decode cX2_goesOn 66 = .ok (.aload_n 0, 1) := by decide +kernel
theorem dX2_goesOn_67 : decode cX2_goesOn 67 = .ok (.getfield 9, 3) := by decide +kernel
theorem dX2_goesOn_70 : decode cX2_goesOn 70 = .ok (.getfield 109, 3) := by decide +kernel
theorem dX2_goesOn_73 : decode cX2_goesOn 73 = .ok (.aload_n 0, 1) := by decide +kernel
theorem dX2_goesOn_74 : decode cX2_goesOn 74 = .ok (.getfield 21, 3) := by decide +kernel
theorem dX2_goesOn_77 : decode cX2_goesOn 77 = .ok (.invokevirtual 113, 3) := by decide +kernel
theorem dX2_goesOn_80 : decode cX2_goesOn 80 = .ok (.ifCond .eq 5, 3) := by decide +kernel
theorem dX2_goesOn_83 : decode cX2_goesOn 83 = .ok (.iconst 0, 1) := by decide +kernel
theorem dX2_goesOn_84 : decode cX2_goesOn 84 = .ok (.ireturn, 1) := by decide +kernel
theorem dX2_goesOn_85 : decode cX2_goesOn 85 = .ok (.aload_n 1, 1) := by decide +kernel
theorem dX2_goesOn_86 : decode cX2_goesOn 86 = .ok (.invokevirtual 117, 3) := by decide +kernel
theorem dX2_goesOn_89 : decode cX2_goesOn 89 = .ok (.aload_n 0, 1) := by decide +kernel
theorem dX2_goesOn_90 : decode cX2_goesOn 90 = .ok (.getfield 9, 3) := by decide +kernel
theorem dX2_goesOn_93 : decode cX2_goesOn 93 = .ok (.getfield 109, 3) := by decide +kernel
theorem dX2_goesOn_96 : decode cX2_goesOn 96 = .ok (.iconst 3, 1) := by decide +kernel
theorem dX2_goesOn_97 : decode cX2_goesOn 97 = .ok (.aload_n 0, 1) := by decide +kernel
theorem dX2_goesOn_98 : decode cX2_goesOn 98 = .ok (.getfield 21, 3) := by decide +kernel
theorem dX2_goesOn_101 : decode cX2_goesOn 101 = .ok (.invokevirtual 120, 3) := by decide +kernel
theorem dX2_goesOn_104 : decode cX2_goesOn 104 = .ok (.if_icmp .ge 15, 3) := by decide +kernel
theorem dX2_goesOn_107 : decode cX2_goesOn 107 = .ok (.aload_n 0, 1) := by decide +kernel
theorem dX2_goesOn_108 : decode cX2_goesOn 108 = .ok (.dup, 1) := by decide +kernel
theorem dX2_goesOn_109 : decode cX2_goesOn 109 = .ok (.getfield 31, 3) := by decide +kernel
theorem dX2_goesOn_112 : decode cX2_goesOn 112 = .ok (.iconst 1, 1) := by decide +kernel
theorem dX2_goesOn_113 : decode cX2_goesOn 113 = .ok (.iadd, 1) := by decide +kernel
theorem dX2_goesOn_114 : decode cX2_goesOn 114 = .ok (.putfield 31, 3) := by decide +kernel
theorem dX2_goesOn_117 : decode cX2_goesOn 117 = .ok (.iconst 0, 1) := by decide +kernel
theorem dX2_goesOn_118 : decode cX2_goesOn 118 = .ok (.ireturn, 1) := by decide +kernel
theorem dX2_goesOn_119 : decode cX2_goesOn 119 = .ok (.aload_n 3, 1) := by decide +kernel
theorem dX2_goesOn_120 : decode cX2_goesOn 120 = .ok (.invokevirtual 124, 3) := by decide +kernel
theorem dX2_goesOn_123 : decode cX2_goesOn 123 = .ok (.aload_n 0, 1) := by decide +kernel
theorem dX2_goesOn_124 : decode cX2_goesOn 124 = .ok (.getfield 9, 3) := by decide +kernel
theorem dX2_goesOn_127 : decode cX2_goesOn 127 = .ok (.getfield 109, 3) := by decide +kernel
theorem dX2_goesOn_130 : decode cX2_goesOn 130 = .ok (.iconst 0, 1) := by decide +kernel
theorem dX2_goesOn_131 : decode cX2_goesOn 131 = .ok (.aload_n 0, 1) := by decide +kernel
theorem dX2_goesOn_132 : decode cX2_goesOn 132 = .ok (.getfield 21, 3) := by decide +kernel
theorem dX2_goesOn_135 : decode cX2_goesOn 135 = .ok (.invokevirtual 120, 3) := by decide +kernel
theorem dX2_goesOn_138 : decode cX2_goesOn 138 = .ok (.iadd, 1) := by decide +kernel
theorem dX2_goesOn_139 : decode cX2_goesOn 139 = .ok (.aload_n 0, 1) := by decide +kernel
theorem dX2_goesOn_140 : decode cX2_goesOn 140 = .ok (.getfield 9, 3) := by decide +kernel
theorem dX2_goesOn_143 : decode cX2_goesOn 143 = .ok (.getfield 109, 3) := by decide +kernel
theorem dX2_goesOn_146 : decode cX2_goesOn 146 = .ok (.iconst 1, 1) := by decide +kernel
theorem dX2_goesOn_147 : decode cX2_goesOn 147 = .ok (.aload_n 0, 1) := by decide +kernel
theorem dX2_goesOn_148 : decode cX2_goesOn 148 = .ok (.getfield 21, 3) := by decide +kernel
theorem dX2_goesOn_151 : decode cX2_goesOn 151 = .ok (.invokevirtual 120, 3) := by decide +kernel
theorem dX2_goesOn_154 : decode cX2_goesOn 154 = .ok (.isub, 1) := by decide +kernel
theorem dX2_goesOn_155 : decode cX2_goesOn 155 = .ok (.istore 4, 2) := by decide +kernel
theorem dX2_goesOn_157 : decode cX2_goesOn 157 = .ok (.aload_n 3, 1) := by decide +kernel
theorem dX2_goesOn_158 : decode cX2_goesOn 158 = .ok (.dup, 1) := by decide +kernel
theorem dX2_goesOn_159 : decode cX2_goesOn 159 = .ok (.getfield 127, 3) := by decide +kernel
theorem dX2_goesOn_162 : decode cX2_goesOn 162 = .ok (.iconst 0, 1) := by decide +kernel
theorem dX2_goesOn_163 : decode cX2_goesOn 163 = .ok (.iload 4, 2) := by decide +kernel
theorem dX2_goesOn_165 : decode cX2_goesOn 165 = .ok (.invokestatic 79, 3) := by decide +kernel
theorem dX2_goesOn_168 : decode cX2_goesOn 168 = .ok (.iadd, 1) := by decide +kernel
theorem dX2_goesOn_169 : decode cX2_goesOn 169 = .ok (.putfield 127, 3) := by decide +kernel
theorem dX2_goesOn_172 : decode cX2_goesOn 172 = .ok (.iconst 1, 1) := by decide +kernel
theorem dX2_goesOn_173 : decode cX2_goesOn 173 = .ok (.ireturn, 1) := by decide +kernel
theorem dX2_allHaveCome_0 : decode cX2_allHaveCome 0 = .ok (.iconst 0, 1) := by decide +kernel
theorem dX2_allHaveCome_1 : decode cX2_allHaveCome 1 = .ok (.istore_n 3, 1) := by decide +kernel
theorem dX2_allHaveCome_2 : decode cX2_allHaveCome 2 = .ok (.iload_n 3, 1) := by decide +kernel
theorem dX2_allHaveCome_3 : decode cX2_allHaveCome 3 = .ok (.bipush 8, 2) := by decide +kernel
theorem dX2_allHaveCome_5 : decode cX2_allHaveCome 5 = .ok (.if_icmp .ge 58, 3) := by decide +kernel
theorem dX2_allHaveCome_8 : decode cX2_allHaveCome 8 = .ok (.aload_n 0, 1) := by decide +kernel
theorem dX2_allHaveCome_9 : decode cX2_allHaveCome 9 = .ok (.getfield 9, 3) := by decide +kernel
theorem dX2_allHaveCome_12 : decode cX2_allHaveCome 12 = .ok (.getfield 49, 3) := by decide +kernel
theorem dX2_allHaveCome_15 : decode cX2_allHaveCome 15 = .ok (.iload_n 3, 1) := by decide +kernel
theorem dX2_allHaveCome_16 : decode cX2_allHaveCome 16 = .ok (.aaload, 1) := by decide +kernel
theorem dX2_allHaveCome_17 : decode cX2_allHaveCome 17 = .ok (.astore 4, 2) := by decide +kernel
theorem dX2_allHaveCome_19 : decode cX2_allHaveCome 19 = .ok (.aload_n 1, 1) := by decide +kernel
theorem dX2_allHaveCome_20 : decode cX2_allHaveCome 20 = .ok (.getfield 38, 3) := by decide +kernel
theorem dX2_allHaveCome_23 : decode cX2_allHaveCome 23 = .ok (.iload_n 3, 1) := by decide +kernel
theorem dX2_allHaveCome_24 : decode cX2_allHaveCome 24 = .ok (.aaload, 1) := by decide +kernel
theorem dX2_allHaveCome_25 : decode cX2_allHaveCome 25 = .ok (.getfield 61, 3) := by decide +kernel
theorem dX2_allHaveCome_28 : decode cX2_allHaveCome 28 = .ok (.ifCond .eq 29, 3) := by decide +kernel
theorem dX2_allHaveCome_31 : decode cX2_allHaveCome 31 = .ok (.aload 4, 2) := by decide +kernel
theorem dX2_allHaveCome_33 : decode cX2_allHaveCome 33 = .ok (.invokevirtual 130, 3) := by decide +kernel
theorem dX2_allHaveCome_36 : decode cX2_allHaveCome 36 = .ok (.iload_n 2, 1) := by decide +kernel
theorem dX2_allHaveCome_37 : decode cX2_allHaveCome 37 = .ok (.if_icmp .lt 20, 3) := by decide +kernel
theorem dX2_allHaveCome_40 : decode cX2_allHaveCome 40 = .ok (.aload 4, 2) := by decide +kernel
theorem dX2_allHaveCome_42 : decode cX2_allHaveCome 42 = .ok (.aload_n 0, 1) := by decide +kernel
theorem dX2_allHaveCome_43 : decode cX2_allHaveCome 43 = .ok (.getfield 15, 3) := by decide +kernel
theorem dX2_allHaveCome_46 : decode cX2_allHaveCome 46 = .ok (.iload_n 3, 1) := by decide +kernel
theorem dX2_allHaveCome_47 : decode cX2_allHaveCome 47 = .ok (.iaload, 1) := by decide +kernel
theorem dX2_allHaveCome_48 : decode cX2_allHaveCome 48 = .ok (.invokevirtual 99, 3) := by decide +kernel
theorem dX2_allHaveCome_51 : decode cX2_allHaveCome 51 = .ok (.iload_n 2, 1) := by decide +kernel
theorem dX2_allHaveCome_52 : decode cX2_allHaveCome 52 = .ok (.if_icmp .ge 5, 3) := by decide +kernel
theorem dX2_allHaveCome_55 : decode cX2_allHaveCome 55 = .ok (.iconst 0, 1) := by decide +kernel
theorem dX2_allHaveCome_56 : decode cX2_allHaveCome 56 = .ok (.ireturn, 1) := by decide +kernel
theorem dX2_allHaveCome_57 : decode cX2_allHaveCome 57 = .ok (.iinc 3 1, 3) := by decide +kernel
theorem dX2_allHaveCome_60 : decode cX2_allHaveCome 60 = .ok (.goto (-58), 3) := by decide +kernel
theorem dX2_allHaveCome_63 : decode cX2_allHaveCome 63 = .ok (.iconst 1, 1) := by decide +kernel
theorem dX2_allHaveCome_64 : decode cX2_allHaveCome 64 = .ok (.ireturn, 1) := by decide +kernel
theorem dX2_setLetters_0 : decode cX2_setLetters 0 = .ok (.iload_n 2, 1) := by decide +kernel
theorem dX2_setLetters_1 : decode cX2_setLetters 1 = .ok (.invokestatic 34, 3) := by decide +kernel
theorem dX2_setLetters_4 : decode cX2_setLetters 4 = .ok (.ifCond .ne 4, 3) := by decide +kernel
theorem dX2_setLetters_7 : decode cX2_setLetters 7 = .ok (.return_, 1) := by decide +kernel
theorem dX2_setLetters_8 : decode cX2_setLetters 8 = .ok (.aload_n 1, 1) := by decide +kernel
theorem dX2_setLetters_9 : decode cX2_setLetters 9 = .ok (.getfield 38, 3) := by decide +kernel
theorem dX2_setLetters_12 : decode cX2_setLetters 12 = .ok (.iload_n 2, 1) := by decide +kernel
theorem dX2_setLetters_13 : decode cX2_setLetters 13 = .ok (.aaload, 1) := by decide +kernel
theorem dX2_setLetters_14 : decode cX2_setLetters 14 = .ok (.astore_n 3, 1) := by decide +kernel
theorem dX2_setLetters_15 : decode cX2_setLetters 15 = .ok (.iconst 0, 1) := by decide +kernel
theorem dX2_setLetters_16 : decode cX2_setLetters 16 = .ok (.istore 4, 2) := by decide +kernel
theorem dX2_setLetters_18 : decode cX2_setLetters 18 = .ok (.iconst 0, 1) := by decide +kernel
theorem dX2_setLetters_19 : decode cX2_setLetters 19 = .ok (.istore 5, 2) := by decide +kernel
theorem dX2_setLetters_21 : decode cX2_setLetters 21 = .ok (.iconst 0, 1) := by decide +kernel
theorem dX2_setLetters_22 : decode cX2_setLetters 22 = .ok (.istore 6, 2) := by decide +kernel
theorem dX2_setLetters_24 : decode cX2_setLetters 24 = .ok (.iload 6, 2) := by decide +kernel
theorem dX2_setLetters_26 : decode cX2_setLetters 26 = .ok (.bipush 8, 2) := by decide +kernel
theorem dX2_setLetters_28 : decode cX2_setLetters 28 = .ok (.if_icmp .ge 51, 3) := by decide +kernel
theorem dX2_setLetters_31 : decode cX2_setLetters 31 = .ok (.iload 6, 2) := by decide +kernel
theorem dX2_setLetters_33 : decode cX2_setLetters 33 = .ok (.iload_n 2, 1) := by decide +kernel
theorem dX2_setLetters_34 : decode cX2_setLetters 34 = .ok (.if_icmp .eq 39, 3) := by decide +kernel
theorem dX2_setLetters_37 : decode cX2_setLetters 37 = .ok (.aload_n 3, 1) := by decide +kernel
theorem dX2_setLetters_38 : decode cX2_setLetters 38 = .ok (.aload_n 1, 1) := by decide +kernel
theorem dX2_setLetters_39 : decode cX2_setLetters 39 = .ok (.getfield 38, 3) := by decide +kernel
theorem dX2_setLetters_42 : decode cX2_setLetters 42 = .ok (.iload 6, 2) := by decide +kernel
theorem dX2_setLetters_44 : decode cX2_setLetters 44 = .ok (.aaload, 1) := by decide +kernel
theorem dX2_setLetters_45 : decode cX2_setLetters 45 = .ok (.aload_n 0, 1) := by decide +kernel
theorem dX2_setLetters_46 : decode cX2_setLetters 46 = .ok (.getfield 9, 3) := by decide +kernel
theorem dX2_setLetters_49 : decode cX2_setLetters 49 = .ok (.getfield 133, 3) := by decide +kernel
theorem dX2_setLetters_52 : decode cX2_setLetters 52 = .ok (.invokevirtual 136, 3) := by decide +kernel
theorem dX2_setLetters_55 : decode cX2_setLetters 55 = .ok (.ifCond .eq 18, 3) := by decide +kernel
theorem dX2_setLetters_58 : decode cX2_setLetters 58 = .ok (.iinc 4 1, 3) := by decide +kernel
theorem dX2_setLetters_61 : decode cX2_setLetters 61 = .ok (.iload 5, 2) := by decide +kernel
theorem dX2_setLetters_63 : decode cX2_setLetters 63 = .ok (.aload_n 0, 1) := by decide +kernel
theorem dX2_setLetters_64 : decode cX2_setLetters 64 = .ok (.getfield 15, 3) := by decide +kernel
theorem dX2_setLetters_67 : decode cX2_setLetters 67 = .ok (.iload 6, 2) := by decide +kernel
theorem dX2_setLetters_69 : decode cX2_setLetters 69 = .ok (.iaload, 1) := by decide +kernel
theorem dX2_setLetters_70 : decode cX2_setLetters 70 = .ok (.iadd, 1) := by decide +kernel
theorem dX2_setLetters_71 : decode cX2_setLetters 71 = .ok (.istore 5, 2) := by decide +kernel
theorem dX2_setLetters_73 : decode cX2_setLetters 73 = .ok (.iinc 6 1, 3) := by decide +kernel
theorem dX2_setLetters_76 : decode cX2_setLetters 76 = .ok (.goto (-52), 3) := by decide +kernel
theorem dX2_setLetters_79 : decode cX2_setLetters 79 = .ok (.aload_n 0, 1) := by decide +kernel
theorem dX2_setLetters_80 : decode cX2_setLetters 80 = .ok (.getfield 21, 3) := by decide +kernel
theorem dX2_setLetters_83 : decode cX2_setLetters 83 = .ok (.iconst 0, 1) := by decide +kernel
theorem dX2_setLetters_84 : decode cX2_setLetters 84 = .ok (.iload_n 2, 1) := by decide +kernel
theorem dX2_setLetters_85 : decode cX2_setLetters 85 = .ok (.iastore, 1) := by decide +kernel
theorem dX2_setLetters_86 : decode cX2_setLetters 86 = .ok (.aload_n 0, 1) := by decide +kernel
theorem dX2_setLetters_87 : decode cX2_setLetters 87 = .ok (.getfield 21, 3) := by decide +kernel
theorem dX2_setLetters_90 : decode cX2_setLetters 90 = .ok (.iconst 1, 1) := by decide +kernel
theorem dX2_setLetters_91 : decode cX2_setLetters 91 = .ok (.aload_n 3, 1) := by decide +kernel
theorem dX2_setLetters_92 : decode cX2_setLetters 92 = .ok (.getfield 140, 3) := by decide +kernel
theorem dX2_setLetters_95 : decode cX2_setLetters 95 = .ok (.iastore, 1) := by decide +kernel
theorem dX2_setLetters_96 : decode cX2_setLetters 96 = .ok (.aload_n 0, 1) := by decide +kernel
theorem dX2_setLetters_97 : decode cX2_setLetters 97 = .ok (.getfield 21, 3) := by decide +kernel
theorem dX2_setLetters_100 : decode cX2_setLetters 100 = .ok (.iconst 2, 1) := by decide +kernel
theorem dX2_setLetters_101 : decode cX2_setLetters 101 = .ok (.aload_n 0, 1) := by decide +kernel
theorem dX2_setLetters_102 : decode cX2_setLetters 102 = .ok (.getfield 15, 3) := by decide +kernel
theorem dX2_setLetters_105 : decode cX2_setLetters 105 = .ok (.iload_n 2, 1) := by decide +kernel
theorem dX2_setLetters_106 : decode cX2_setLetters 106 = .ok (.iaload, 1) := by decide +kernel
theorem dX2_setLetters_107 : decode cX2_setLetters 107 = .ok (.iastore, 1) := by decide +kernel
theorem dX2_setLetters_108 : decode cX2_setLetters 108 = .ok (.aload_n 0, 1) := by decide +kernel
theorem dX2_setLetters_109 : decode cX2_setLetters 109 = .ok (.getfield 21, 3) := by decide +kernel
theorem dX2_setLetters_112 : decode cX2_setLetters 112 = .ok (.iconst 3, 1) := by decide +kernel
theorem dX2_setLetters_113 : decode cX2_setLetters 113 = .ok (.iload 4, 2) := by decide +kernel
theorem dX2_setLetters_115 : decode cX2_setLetters 115 = .ok (.ifCond .ne 7, 3) := by decide +kernel
theorem dX2_setLetters_118 : decode cX2_setLetters 118 = .ok (.iconst 0, 1) := by decide +kernel
theorem dX2_setLetters_119 : decode cX2_setLetters 119 = .ok (.goto 15, 3) := by decide +kernel
theorem dX2_setLetters_122 : decode cX2_setLetters 122 = .ok (.iload 5, 2) := by decide +kernel
theorem dX2_setLetters_124 : decode cX2_setLetters 124 = .ok (.iload 4, 2) := by decide +kernel
theorem dX2_setLetters_126 : decode cX2_setLetters 126 = .ok (.idiv, 1) := by decide +kernel
theorem dX2_setLetters_127 : decode cX2_setLetters 127 = .ok (.aload_n 0, 1) := by decide +kernel
theorem dX2_setLetters_128 : decode cX2_setLetters 128 = .ok (.getfield 15, 3) := by decide +kernel
theorem dX2_setLetters_131 : decode cX2_setLetters 131 = .ok (.iload_n 2, 1) := by decide +kernel
theorem dX2_setLetters_132 : decode cX2_setLetters 132 = .ok (.iaload, 1) := by decide +kernel
theorem dX2_setLetters_133 : decode cX2_setLetters 133 = .ok (.isub, 1) := by decide +kernel
theorem dX2_setLetters_134 : decode cX2_setLetters 134 = .ok (.iastore, 1) := by decide +kernel
theorem dX2_setLetters_135 : decode cX2_setLetters 135 = .ok (.aload_n 0, 1) := by decide +kernel
theorem dX2_setLetters_136 : decode cX2_setLetters 136 = .ok (.getfield 21, 3) := by decide +kernel
theorem dX2_setLetters_139 : decode cX2_setLetters 139 = .ok (.iconst 4, 1) := by decide +kernel
theorem dX2_setLetters_140 : decode cX2_setLetters 140 = .ok (.iload 4, 2) := by decide +kernel
theorem dX2_setLetters_142 : decode cX2_setLetters 142 = .ok (.iastore, 1) := by decide +kernel
theorem dX2_setLetters_143 : decode cX2_setLetters 143 = .ok (.aload_n 0, 1) := by decide +kernel
theorem dX2_setLetters_144 : decode cX2_setLetters 144 = .ok (.getfield 21, 3) := by decide +kernel
theorem dX2_setLetters_147 : decode cX2_setLetters 147 = .ok (.iconst 5, 1) := by decide +kernel
theorem dX2_setLetters_148 : decode cX2_setLetters 148 = .ok (.aload_n 3, 1) := by decide +kernel
theorem dX2_setLetters_149 : decode cX2_setLetters 149 = .ok (.getfield 143, 3) := by decide +kernel
theorem dX2_setLetters_152 : decode cX2_setLetters 152 = .ok (.iastore, 1) := by decide +kernel
theorem dX2_setLetters_153 : decode cX2_setLetters 153 = .ok (.aload_n 0, 1) := by decide +kernel
theorem dX2_setLetters_154 : decode cX2_setLetters 154 = .ok (.getfield 21, 3) := by decide +kernel
theorem dX2_setLetters_157 : decode cX2_setLetters 157 = .ok (.bipush 6, 2) := by decide +kernel
theorem dX2_setLetters_159 : decode cX2_setLetters 159 = .ok (.aload_n 0, 1) := by decide +kernel
theorem dX2_setLetters_160 : decode cX2_setLetters 160 = .ok (.getfield 9, 3) := by decide +kernel
theorem dX2_setLetters_163 : decode cX2_setLetters 163 = .ok (.getfield 49, 3) := by decide +kernel
theorem dX2_setLetters_166 : decode cX2_setLetters 166 = .ok (.iload_n 2, 1) := by decide +kernel
theorem dX2_setLetters_167 : decode cX2_setLetters 167 = .ok (.aaload, 1) := by decide +kernel
theorem dX2_setLetters_168 : decode cX2_setLetters 168 = .ok (.aload_n 3, 1) := by decide +kernel
theorem dX2_setLetters_169 : decode cX2_setLetters 169 = .ok (.getfield 44, 3) := by decide +kernel
theorem dX2_setLetters_172 : decode cX2_setLetters 172 = .ok (.invokevirtual 75, 3) := by decide +kernel
theorem dX2_setLetters_175 : decode cX2_setLetters 175 = .ok (.iastore, 1) := by decide +kernel
theorem dX2_setLetters_176 : decode cX2_setLetters 176 = .ok (.aload_n 0, 1) := by decide +kernel
theorem dX2_setLetters_177 : decode cX2_setLetters 177 = .ok (.getfield 21, 3) := by decide +kernel
theorem dX2_setLetters_180 : decode cX2_setLetters 180 = .ok (.bipush 7, 2) := by decide +kernel
theorem dX2_setLetters_182 : decode cX2_setLetters 182 = .ok (.aload_n 1, 1) := by decide +kernel
theorem dX2_setLetters_183 : decode cX2_setLetters 183 = .ok (.getfield 88, 3) := by decide +kernel
theorem dX2_setLetters_186 : decode cX2_setLetters 186 = .ok (.bipush 100, 2) := by decide +kernel
theorem dX2_setLetters_188 : decode cX2_setLetters 188 = .ok (.irem, 1) := by decide +kernel
theorem dX2_setLetters_189 : decode cX2_setLetters 189 = .ok (.iastore, 1) := by decide +kernel
theorem dX2_setLetters_190 : decode cX2_setLetters 190 = .ok (.return_, 1) := by decide +kernel
theorem dX2_sing_0 : decode cX2_sing 0 = .ok (.iconst 0, 1) := by decide +kernel
theorem dX2_sing_1 : decode cX2_sing 1 = .ok (.istore_n 3, 1) := by decide +kernel
theorem dX2_sing_2 : decode cX2_sing 2 = .ok (.iload_n 3, 1) := by decide +kernel
theorem dX2_sing_3 : decode cX2_sing 3 = .ok (.bipush 60, 2) := by decide +kernel
theorem dX2_sing_5 : decode cX2_sing 5 = .ok (.if_icmp .ge 140, 3) := by decide +kernel
theorem dX2_sing_8 : decode cX2_sing 8 = .ok (.aload_n 1, 1) := by decide +kernel
theorem dX2_sing_9 : decode cX2_sing 9 = .ok (.getfield 127, 3) := by decide +kernel
theorem dX2_sing_12 : decode cX2_sing 12 = .ok (.aload_n 0, 1) := by decide +kernel
theorem dX2_sing_13 : decode cX2_sing 13 = .ok (.getfield 9, 3) := by decide +kernel
theorem dX2_sing_16 : decode cX2_sing 16 = .ok (.getfield 146, 3) := by decide +kernel
theorem dX2_sing_19 : decode cX2_sing 19 = .ok (.if_icmp .lt 126, 3) := by decide +kernel
theorem dX2_sing_22 : decode cX2_sing 22 = .ok (.aload_n 1, 1) := by decide +kernel
theorem dX2_sing_23 : decode cX2_sing 23 = .ok (.getfield 44, 3) := by decide +kernel
theorem dX2_sing_26 : decode cX2_sing 26 = .ok (.istore 4, 2) := by decide +kernel
theorem dX2_sing_28 : decode cX2_sing 28 = .ok (.aload_n 1, 1) := by decide +kernel
theorem dX2_sing_29 : decode cX2_sing 29 = .ok (.dup, 1) := by decide +kernel
theorem dX2_sing_30 : decode cX2_sing 30 = .ok (.getfield 127, 3) := by decide +kernel
theorem dX2_sing_33 : decode cX2_sing 33 = .ok (.aload_n 0, 1) := by decide +kernel
theorem dX2_sing_34 : decode cX2_sing 34 = .ok (.getfield 9, 3) := by decide +kernel
theorem dX2_sing_37 : decode cX2_sing 37 = .ok (.getfield 146, 3) := by decide +kernel
theorem dX2_sing_40 : decode cX2_sing 40 = .ok (.isub, 1) := by decide +kernel
theorem dX2_sing_41 : decode cX2_sing 41 = .ok (.putfield 127, 3) := by decide +kernel
theorem dX2_sing_44 : decode cX2_sing 44 = .ok (.aload_n 2, 1) := by decide +kernel
theorem dX2_sing_45 : decode cX2_sing 45 = .ok (.iload 4, 2) := by decide +kernel
theorem dX2_sing_47 : decode cX2_sing 47 = .ok (.invokevirtual 75, 3) := by decide +kernel
theorem dX2_sing_50 : decode cX2_sing 50 = .ok (.ifCond .eq 14, 3) := by decide +kernel
theorem dX2_sing_53 : decode cX2_sing 53 = .ok (.aload_n 0, 1) := by decide +kernel
theorem dX2_sing_54 : decode cX2_sing 54 = .ok (.aload_n 1, 1) := by decide +kernel
theorem dX2_sing_55 : decode cX2_sing 55 = .ok (.aload_n 2, 1) := by decide +kernel
theorem dX2_sing_56 : decode cX2_sing 56 = .ok (.iload 4, 2) := by decide +kernel
theorem dX2_sing_58 : decode cX2_sing 58 = .ok (.invokevirtual 75, 3) := by decide +kernel
theorem dX2_sing_61 : decode cX2_sing 61 = .ok (.invokevirtual 149, 3) := by decide +kernel
theorem dX2_sing_64 : decode cX2_sing 64 = .ok (.aload_n 1, 1) := by decide +kernel
theorem dX2_sing_65 : decode cX2_sing 65 = .ok (.dup, 1) := by decide +kernel
theorem dX2_sing_66 : decode cX2_sing 66 = .ok (.getfield 44, 3) := by decide +kernel
theorem dX2_sing_69 : decode cX2_sing 69 = .ok (.iconst 1, 1) := by decide +kernel
theorem dX2_sing_70 : decode cX2_sing 70 = .ok (.iadd, 1) := by decide +kernel
theorem dX2_sing_71 : decode cX2_sing 71 = .ok (.putfield 44, 3) := by decide +kernel
theorem dX2_sing_74 : decode cX2_sing 74 = .ok (.aload_n 0, 1) := by decide +kernel
theorem dX2_sing_75 : decode cX2_sing 75 = .ok (.dup, 1) := by decide +kernel
theorem dX2_sing_76 : decode cX2_sing 76 = .ok (.getfield 24, 3) := by decide +kernel
theorem dX2_sing_79 : decode cX2_sing 79 = .ok (.iconst 1, 1) := by decide +kernel
theorem dX2_sing_80 : decode cX2_sing 80 = .ok (.iadd, 1) := by decide +kernel
theorem dX2_sing_81 : decode cX2_sing 81 = .ok (.putfield 24, 3) := by decide +kernel
theorem dX2_sing_84 : decode cX2_sing 84 = .ok (.aload_n 2, 1) := by decide +kernel
theorem dX2_sing_85 : decode cX2_sing 85 = .ok (.iload 4, 2) := by decide +kernel
theorem dX2_sing_87 : decode cX2_sing 87 = .ok (.invokevirtual 153, 3) := by decide +kernel
theorem dX2_sing_90 : decode cX2_sing 90 = .ok (.ifCond .eq 11, 3) := by decide +kernel
theorem dX2_sing_93 : decode cX2_sing 93 = .ok (.aload_n 1, 1) := by decide +kernel
theorem dX2_sing_94 : decode cX2_sing 94 = .ok (.aload_n 1, 1) := by decide +kernel
theorem dX2_sing_95 : decode cX2_sing 95 = .ok (.getfield 156, 3) := by decide +kernel
theorem dX2_sing_98 : decode cX2_sing 98 = .ok (.putfield 143, 3) := by decide +kernel
theorem dX2_sing_101 : decode cX2_sing 101 = .ok (.aload_n 1, 1) := by decide +kernel
theorem dX2_sing_102 : decode cX2_sing 102 = .ok (.getfield 44, 3) := by decide +kernel
theorem dX2_sing_105 : decode cX2_sing 105 = .ok (.aload_n 2, 1) := by decide +kernel
theorem dX2_sing_106 : decode cX2_sing 106 = .ok (.invokevirtual 55, 3) := by decide +kernel
theorem dX2_sing_109 : decode cX2_sing 109 = .ok (.if_icmp .lt 11, 3) := by decide +kernel
theorem dX2_sing_112 : decode cX2_sing 112 = .ok (.aload_n 1, 1) := by decide +kernel
theorem dX2_sing_113 : decode cX2_sing 113 = .ok (.iconst 0, 1) := by decide +kernel
theorem dX2_sing_114 : decode cX2_sing 114 = .ok (.putfield 127, 3) := by decide +kernel
theorem dX2_sing_117 : decode cX2_sing 117 = .ok (.goto 22, 3) := by decide +kernel
theorem dX2_sing_120 : decode cX2_sing 120 = .ok (.aload_n 2, 1) := by decide +kernel
theorem dX2_sing_121 : decode cX2_sing 121 = .ok (.iload 4, 2) := by decide +kernel
theorem dX2_sing_123 : decode cX2_sing 123 = .ok (.invokevirtual 159, 3) := by decide +kernel
theorem dX2_sing_126 : decode cX2_sing 126 = .ok (.ifCond .eq 13, 3) := by decide +kernel
theorem dX2_sing_129 : decode cX2_sing 129 = .ok (.aload_n 1, 1) := by decide +kernel
theorem dX2_sing_130 : decode cX2_sing 130 = .ok (.iconst 1, 1) := by decide +kernel
theorem dX2_sing_131 : decode cX2_sing 131 = .ok (.putfield 72, 3) := by decide +kernel
theorem dX2_sing_134 : decode cX2_sing 134 = .ok (.aload_n 1, 1) := by decide +kernel
theorem dX2_sing_135 : decode cX2_sing 135 = .ok (.iconst 0, 1) := by decide +kernel
theorem dX2_sing_136 : decode cX2_sing 136 = .ok (.putfield 127, 3) := by decide +kernel
theorem dX2_sing_139 : decode cX2_sing 139 = .ok (.iinc 3 1, 3) := by decide +kernel
theorem dX2_sing_142 : decode cX2_sing 142 = .ok (.goto (-140), 3) := by decide +kernel
theorem dX2_sing_145 : decode cX2_sing 145 = .ok (.return_, 1) := by decide +kernel
theorem dX2_spendBreath_0 : decode cX2_spendBreath 0 = .ok (.aload_n 1, 1) := by decide +kernel
theorem dX2_spendBreath_1 : decode cX2_spendBreath 1 = .ok (.getfield 143, 3) := by decide +kernel
theorem dX2_spendBreath_4 : decode cX2_spendBreath 4 = .ok (.ifCond .ne 24, 3) := by decide +kernel
theorem dX2_spendBreath_7 : decode cX2_spendBreath 7 = .ok (.aload_n 1, 1) := by decide +kernel
theorem dX2_spendBreath_8 : decode cX2_spendBreath 8 = .ok (.dup, 1) := by decide +kernel
theorem dX2_spendBreath_9 : decode cX2_spendBreath 9 = .ok (.getfield 162, 3) := by decide +kernel
theorem dX2_spendBreath_12 : decode cX2_spendBreath 12 = .ok (.iconst 1, 1) := by decide +kernel
theorem dX2_spendBreath_13 : decode cX2_spendBreath 13 = .ok (.iadd, 1) := by decide +kernel
theorem dX2_spendBreath_14 : decode cX2_spendBreath 14 = .ok (.putfield 162, 3) := by decide +kernel
theorem dX2_spendBreath_17 : decode cX2_spendBreath 17 = .ok (.aload_n 0, 1) := by decide +kernel
theorem dX2_spendBreath_18 : decode cX2_spendBreath 18 = .ok (.dup, 1) := by decide +kernel
theorem dX2_spendBreath_19 : decode cX2_spendBreath 19 = .ok (.getfield 28, 3) := by decide +kernel
theorem dX2_spendBreath_22 : decode cX2_spendBreath 22 = .ok (.iconst 1, 1) := by decide +kernel
theorem dX2_spendBreath_23 : decode cX2_spendBreath 23 = .ok (.iadd, 1) := by decide +kernel
theorem dX2_spendBreath_24 : decode cX2_spendBreath 24 = .ok (.putfield 28, 3) := by decide +kernel
theorem dX2_spendBreath_27 : decode cX2_spendBreath 27 = .ok (.return_, 1) := by decide +kernel
theorem dX2_spendBreath_28 : decode cX2_spendBreath 28 = .ok (.aload_n 0, 1) := by decide +kernel
theorem dX2_spendBreath_29 : decode cX2_spendBreath 29 = .ok (.getfield 21, 3) := by decide +kernel
theorem dX2_spendBreath_32 : decode cX2_spendBreath 32 = .ok (.iconst 5, 1) := by decide +kernel
theorem dX2_spendBreath_33 : decode cX2_spendBreath 33 = .ok (.aload_n 1, 1) := by decide +kernel
theorem dX2_spendBreath_34 : decode cX2_spendBreath 34 = .ok (.getfield 143, 3) := by decide +kernel
theorem dX2_spendBreath_37 : decode cX2_spendBreath 37 = .ok (.iastore, 1) := by decide +kernel
theorem dX2_spendBreath_38 : decode cX2_spendBreath 38 = .ok (.aload_n 0, 1) := by decide +kernel
theorem dX2_spendBreath_39 : decode cX2_spendBreath 39 = .ok (.getfield 21, 3) := by decide +kernel
theorem dX2_spendBreath_42 : decode cX2_spendBreath 42 = .ok (.bipush 6, 2) := by decide +kernel
theorem dX2_spendBreath_44 : decode cX2_spendBreath 44 = .ok (.iload_n 2, 1) := by decide +kernel
theorem dX2_spendBreath_45 : decode cX2_spendBreath 45 = .ok (.iastore, 1) := by decide +kernel
theorem dX2_spendBreath_46 : decode cX2_spendBreath 46 = .ok (.aload_n 1, 1) := by decide +kernel
theorem dX2_spendBreath_47 : decode cX2_spendBreath 47 = .ok (.iconst 0, 1) := by decide +kernel
theorem dX2_spendBreath_48 : decode cX2_spendBreath 48 = .ok (.aload_n 1, 1) := by decide +kernel
theorem dX2_spendBreath_49 : decode cX2_spendBreath 49 = .ok (.getfield 143, 3) := by decide +kernel
theorem dX2_spendBreath_52 : decode cX2_spendBreath 52 = .ok (.aload_n 0, 1) := by decide +kernel
theorem dX2_spendBreath_53 : decode cX2_spendBreath 53 = .ok (.getfield 9, 3) := by decide +kernel
theorem dX2_spendBreath_56 : decode cX2_spendBreath 56 = .ok (.getfield 109, 3) := by decide +kernel
theorem dX2_spendBreath_59 : decode cX2_spendBreath 59 = .ok (.iconst 2, 1) := by decide +kernel
theorem dX2_spendBreath_60 : decode cX2_spendBreath 60 = .ok (.aload_n 0, 1) := by decide +kernel
theorem dX2_spendBreath_61 : decode cX2_spendBreath 61 = .ok (.getfield 21, 3) := by decide +kernel
theorem dX2_spendBreath_64 : decode cX2_spendBreath 64 = .ok (.invokevirtual 120, 3) := by decide +kernel
theorem dX2_spendBreath_67 : decode cX2_spendBreath 67 = .ok (.isub, 1) := by decide +kernel
theorem dX2_spendBreath_68 : decode cX2_spendBreath 68 = .ok (.invokestatic 79, 3) := by decide +kernel
theorem dX2_spendBreath_71 : decode cX2_spendBreath 71 = .ok (.putfield 143, 3) := by decide +kernel
theorem dX2_spendBreath_74 : decode cX2_spendBreath 74 = .ok (.return_, 1) := by decide +kernel
theorem dX3_init_0 : decode cX3_init 0 = .ok (.aload_n 0, 1) := by decide +kernel
theorem dX3_init_1 : decode cX3_init 1 = .ok (.invokespecial 3, 3) := by decide +kernel
theorem dX3_init_4 : decode cX3_init 4 = .ok (.aload_n 0, 1) := by decide +kernel
theorem dX3_init_5 : decode cX3_init 5 = .ok (.sipush 240, 3) := by decide +kernel
theorem dX3_init_8 : decode cX3_init 8 = .ok (.newarray .int, 2) := by decide +kernel
theorem dX3_init_10 : decode cX3_init 10 = .ok (.putfield 9, 3) := by decide +kernel
theorem dX3_init_13 : decode cX3_init 13 = .ok (.aload_n 0, 1) := by decide +kernel
theorem dX3_init_14 : decode cX3_init 14 = .ok (.sipush 240, 3) := by decide +kernel
theorem dX3_init_17 : decode cX3_init 17 = .ok (.newarray .int, 2) := by decide +kernel
theorem dX3_init_19 : decode cX3_init 19 = .ok (.putfield 13, 3) := by decide +kernel
theorem dX3_init_22 : decode cX3_init 22 = .ok (.aload_n 0, 1) := by decide +kernel
theorem dX3_init_23 : decode cX3_init 23 = .ok (.bipush 16, 2) := by decide +kernel
theorem dX3_init_25 : decode cX3_init 25 = .ok (.newarray .int, 2) := by decide +kernel
theorem dX3_init_27 : decode cX3_init 27 = .ok (.putfield 16, 3) := by decide +kernel
theorem dX3_init_30 : decode cX3_init 30 = .ok (.aload_n 0, 1) := by decide +kernel
theorem dX3_init_31 : decode cX3_init 31 = .ok (.bipush 16, 2) := by decide +kernel
theorem dX3_init_33 : decode cX3_init 33 = .ok (.newarray .int, 2) := by decide +kernel
theorem dX3_init_35 : decode cX3_init 35 = .ok (.putfield 19, 3) := by decide +kernel
theorem dX3_init_38 : decode cX3_init 38 = .ok (.aload_n 0, 1) := by decide +kernel
theorem dX3_init_39 : decode cX3_init 39 = .ok (.bipush 16, 2) := by decide +kernel
theorem dX3_init_41 : decode cX3_init 41 = .ok (.newarray .int, 2) := by decide +kernel
theorem dX3_init_43 : decode cX3_init 43 = .ok (.putfield 22, 3) := by decide +kernel
theorem dX3_init_46 : decode cX3_init 46 = .ok (.aload_n 0, 1) := by decide +kernel
theorem dX3_init_47 : decode cX3_init 47 = .ok (.bipush 16, 2) := by decide +kernel
theorem dX3_init_49 : decode cX3_init 49 = .ok (.newarray .int, 2) := by decide +kernel
theorem dX3_init_51 : decode cX3_init 51 = .ok (.putfield 25, 3) := by decide +kernel
theorem dX3_init_54 : decode cX3_init 54 = .ok (.aload_n 0, 1) := by decide +kernel
theorem dX3_init_55 : decode cX3_init 55 = .ok (.bipush 32, 2) := by decide +kernel
theorem dX3_init_57 : decode cX3_init 57 = .ok (.newarray .int, 2) := by decide +kernel
theorem dX3_init_59 : decode cX3_init 59 = .ok (.putfield 28, 3) := by decide +kernel
theorem dX3_init_62 : decode cX3_init 62 = .ok (.return_, 1) := by decide +kernel
theorem dX3_ruleCount_0 : decode cX3_ruleCount 0 = .ok (.aload_n 0, 1) := by decide +kernel
theorem dX3_ruleCount_1 : decode cX3_ruleCount 1 = .ok (.getfield 31, 3) := by decide +kernel
theorem dX3_ruleCount_4 : decode cX3_ruleCount 4 = .ok (.ireturn, 1) := by decide +kernel
theorem dX3_stepCount_0 : decode cX3_stepCount 0 = .ok (.aload_n 0, 1) := by decide +kernel
theorem dX3_stepCount_1 : decode cX3_stepCount 1 = .ok (.getfield 35, 3) := by decide +kernel
theorem dX3_stepCount_4 : decode cX3_stepCount 4 = .ok (.ireturn, 1) := by decide +kernel
theorem dX3_clear_0 : decode cX3_clear 0 = .ok (.aload_n 0, 1) := by decide +kernel
theorem dX3_clear_1 : decode cX3_clear 1 = .ok (.iconst 0, 1) := by decide +kernel
theorem dX3_clear_2 : decode cX3_clear 2 = .ok (.putfield 35, 3) := by decide +kernel
theorem dX3_clear_5 : decode cX3_clear 5 = .ok (.aload_n 0, 1) := by decide +kernel
theorem dX3_clear_6 : decode cX3_clear 6 = .ok (.iconst 0, 1) := by decide +kernel
theorem dX3_clear_7 : decode cX3_clear 7 = .ok (.putfield 31, 3) := by decide +kernel
theorem dX3_clear_10 : decode cX3_clear 10 = .ok (.return_, 1) := by decide +kernel
theorem dX3_addStep_0 : decode cX3_addStep 0 = .ok (.aload_n 0, 1) := by decide +kernel
theorem dX3_addStep_1 : decode cX3_addStep 1 = .ok (.getfield 35, 3) := by decide +kernel
theorem dX3_addStep_4 : decode cX3_addStep 4 = .ok (.sipush 240, 3) := by decide +kernel
theorem dX3_addStep_7 : decode cX3_addStep 7 = .ok (.if_icmp .ge 33, 3) := by decide +kernel
theorem dX3_addStep_10 : decode cX3_addStep 10 = .ok (.aload_n 0, 1) := by decide +kernel
theorem dX3_addStep_11 : decode cX3_addStep 11 = .ok (.getfield 9, 3) := by decide +kernel
theorem dX3_addStep_14 : decode cX3_addStep 14 = .ok (.aload_n 0, 1) := by decide +kernel
theorem dX3_addStep_15 : decode cX3_addStep 15 = .ok (.getfield 35, 3) := by decide +kernel
theorem dX3_addStep_18 : decode cX3_addStep 18 = .ok (.iload_n 1, 1) := by decide +kernel
theorem dX3_addStep_19 : decode cX3_addStep 19 = .ok (.iastore, 1) := by decide +kernel
theorem dX3_addStep_20 : decode cX3_addStep 20 = .ok (.aload_n 0, 1) := by decide +kernel
theorem dX3_addStep_21 : decode cX3_addStep 21 = .ok (.getfield 13, 3) := by decide +kernel
theorem dX3_addStep_24 : decode cX3_addStep 24 = .ok (.aload_n 0, 1) := by decide +kernel
theorem dX3_addStep_25 : decode cX3_addStep 25 = .ok (.getfield 35, 3) := by decide +kernel
theorem dX3_addStep_28 : decode cX3_addStep 28 = .ok (.iload_n 2, 1) := by decide +kernel
theorem dX3_addStep_29 : decode cX3_addStep 29 = .ok (.iastore, 1) := by decide +kernel
theorem dX3_addStep_30 : decode cX3_addStep 30 = .ok (.aload_n 0, 1) := by decide +kernel
theorem dX3_addStep_31 : decode cX3_addStep 31 = .ok (.dup, 1) := by decide +kernel
theorem dX3_addStep_32 : decode cX3_addStep 32 = .ok (.getfield 35, 3) := by decide +kernel
theorem dX3_addStep_35 : decode cX3_addStep 35 = .ok (.iconst 1, 1) := by decide +kernel
theorem dX3_addStep_36 : decode cX3_addStep 36 = .ok (.iadd, 1) := by decide +kernel
theorem dX3_addStep_37 : decode cX3_addStep 37 = .ok (.putfield 35, 3) := by decide +kernel
theorem dX3_addStep_40 : decode cX3_addStep 40 = .ok (.return_, 1) := by decide +kernel
theorem dX3_addSkip_0 : decode cX3_addSkip 0 = .ok (.aload_n 0, 1) := by decide +kernel
theorem dX3_addSkip_1 : decode cX3_addSkip 1 = .ok (.iload_n 1, 1) := by decide +kernel
theorem dX3_addSkip_2 : decode cX3_addSkip 2 = .ok (.iload_n 2, 1) := by decide +kernel
theorem dX3_addSkip_3 : decode cX3_addSkip 3 = .ok (.invokevirtual 38, 3) := by decide +kernel
theorem dX3_addSkip_6 : decode cX3_addSkip 6 = .ok (.aload_n 0, 1) := by decide +kernel
theorem dX3_addSkip_7 : decode cX3_addSkip 7 = .ok (.getfield 35, 3) := by decide +kernel
theorem dX3_addSkip_10 : decode cX3_addSkip 10 = .ok (.iconst 1, 1) := by decide +kernel
theorem dX3_addSkip_11 : decode cX3_addSkip 11 = .ok (.isub, 1) := by decide +kernel
theorem dX3_addSkip_12 : decode cX3_addSkip 12 = .ok (.ireturn, 1) := by decide +kernel
theorem dX3_landHere_0 : decode cX3_landHere 0 = .ok (.iload_n 1, 1) := by decide +kernel
theorem dX3_landHere_1 : decode cX3_landHere 1 = .ok (.istore_n 2, 1) := by decide +kernel
theorem dX3_landHere_2 : decode cX3_landHere 2 = .ok (.iconst 0, 1) := by decide +kernel
theorem dX3_landHere_3 : decode cX3_landHere 3 = .ok (.istore_n 3, 1) := by decide +kernel
theorem dX3_landHere_4 : decode cX3_landHere 4 = .ok (.iload_n 3, 1) := by decide +kernel
theorem dX3_landHere_5 : decode cX3_landHere 5 = .ok (.sipush 240, 3) := by decide +kernel
theorem dX3_landHere_8 : decode cX3_landHere 8 = .ok (.if_icmp .ge 42, 3) := by decide +kernel
theorem dX3_landHere_11 : decode cX3_landHere 11 = .ok (.iload_n 2, 1) := by decide +kernel
theorem dX3_landHere_12 : decode cX3_landHere 12 = .ok (.ifCond .lt 38, 3) := by decide +kernel
theorem dX3_landHere_15 : decode cX3_landHere 15 = .ok (.iload_n 2, 1) := by decide +kernel
theorem dX3_landHere_16 : decode cX3_landHere 16 = .ok (.aload_n 0, 1) := by decide +kernel
theorem dX3_landHere_17 : decode cX3_landHere 17 = .ok (.getfield 35, 3) := by decide +kernel
theorem dX3_landHere_20 : decode cX3_landHere 20 = .ok (.if_icmp .ge 30, 3) := by decide +kernel
theorem dX3_landHere_23 : decode cX3_landHere 23 = .ok (.aload_n 0, 1) := by decide +kernel
theorem dX3_landHere_24 : decode cX3_landHere 24 = .ok (.getfield 13, 3) := by decide +kernel
theorem dX3_landHere_27 : decode cX3_landHere 27 = .ok (.iload_n 2, 1) := by decide +kernel
theorem dX3_landHere_28 : decode cX3_landHere 28 = .ok (.iaload, 1) := by decide +kernel
theorem dX3_landHere_29 : decode cX3_landHere 29 = .ok (.istore 4, 2) := by decide +kernel
theorem dX3_landHere_31 : decode cX3_landHere 31 = .ok (.aload_n 0, 1) := by decide +kernel
theorem dX3_landHere_32 : decode cX3_landHere 32 = .ok (.getfield 13, 3) := by decide +kernel
theorem dX3_landHere_35 : decode cX3_landHere 35 = .ok (.iload_n 2, 1) := by decide +kernel
theorem dX3_landHere_36 : decode cX3_landHere 36 = .ok (.aload_n 0, 1) := by decide +kernel
theorem dX3_landHere_37 : decode cX3_landHere 37 = .ok (.getfield 35, 3) := by decide +kernel
theorem dX3_landHere_40 : decode cX3_landHere 40 = .ok (.iastore, 1) := by decide +kernel
theorem dX3_landHere_41 : decode cX3_landHere 41 = .ok (.iload 4, 2) := by decide +kernel
theorem dX3_landHere_43 : decode cX3_landHere 43 = .ok (.istore_n 2, 1) := by decide +kernel
theorem dX3_landHere_44 : decode cX3_landHere 44 = .ok (.iinc 3 1, 3) := by decide +kernel
theorem dX3_landHere_47 : decode cX3_landHere 47 = .ok (.goto (-43), 3) := by decide +kernel
theorem dX3_landHere_50 : decode cX3_landHere 50 = .ok (.return_, 1) := by decide +kernel
theorem dX3_addRule_0 : decode cX3_addRule 0 = .ok (.aload_n 0, 1) := by decide +kernel
theorem dX3_addRule_1 : decode cX3_addRule 1 = .ok (.getfield 31, 3) := by decide +kernel
theorem dX3_addRule_4 : decode cX3_addRule 4 = .ok (.bipush 16, 2) := by decide +kernel
theorem dX3_addRule_6 : decode cX3_addRule 6 = .ok (.if_icmp .ge 56, 3) := by decide +kernel
theorem dX3_addRule_9 : decode cX3_addRule 9 = .ok (.aload_n 0, 1) := by decide +kernel
theorem dX3_addRule_10 : decode cX3_addRule 10 = .ok (.getfield 16, 3) := by decide +kernel
theorem dX3_addRule_13 : decode cX3_addRule 13 = .ok (.aload_n 0, 1) := by decide +kernel
theorem dX3_addRule_14 : decode cX3_addRule 14 = .ok (.getfield 31, 3) := by decide +kernel
theorem dX3_addRule_17 : decode cX3_addRule 17 = .ok (.iload_n 1, 1) := by decide +kernel
theorem dX3_addRule_18 : decode cX3_addRule 18 = .ok (.iastore, 1) := by decide +kernel
theorem dX3_addRule_19 : decode cX3_addRule 19 = .ok (.aload_n 0, 1) := by decide +kernel
theorem dX3_addRule_20 : decode cX3_addRule 20 = .ok (.getfield 19, 3) := by decide +kernel
theorem dX3_addRule_23 : decode cX3_addRule 23 = .ok (.aload_n 0, 1) := by decide +kernel
theorem dX3_addRule_24 : decode cX3_addRule 24 = .ok (.getfield 31, 3) := by decide +kernel
theorem dX3_addRule_27 : decode cX3_addRule 27 = .ok (.iload_n 2, 1) := by decide +kernel
theorem dX3_addRule_28 : decode cX3_addRule 28 = .ok (.iastore, 1) := by decide +kernel
theorem dX3_addRule_29 : decode cX3_addRule 29 = .ok (.aload_n 0, 1) := by decide +kernel
theorem dX3_addRule_30 : decode cX3_addRule 30 = .ok (.getfield 22, 3) := by decide +kernel
theorem dX3_addRule_33 : decode cX3_addRule 33 = .ok (.aload_n 0, 1) := by decide +kernel
theorem dX3_addRule_34 : decode cX3_addRule 34 = .ok (.getfield 31, 3) := by decide +kernel
theorem dX3_addRule_37 : decode cX3_addRule 37 = .ok (.iload_n 3, 1) := by decide +kernel
theorem dX3_addRule_38 : decode cX3_addRule 38 = .ok (.iastore, 1) := by decide +kernel
theorem dX3_addRule_39 : decode cX3_addRule 39 = .ok (.aload_n 0, 1) := by decide +kernel
theorem dX3_addRule_40 : decode cX3_addRule 40 = .ok (.getfield 25, 3) := by decide +kernel
theorem dX3_addRule_43 : decode cX3_addRule 43 = .ok (.aload_n 0, 1) := by decide +kernel
theorem dX3_addRule_44 : decode cX3_addRule 44 = .ok (.getfield 31, 3) := by decide +kernel
theorem dX3_addRule_47 : decode cX3_addRule 47 = .ok (.aload_n 0, 1) := by decide +kernel
theorem dX3_addRule_48 : decode cX3_addRule 48 = .ok (.getfield 35, 3) := by decide +kernel
theorem dX3_addRule_51 : decode cX3_addRule 51 = .ok (.iastore, 1) := by decide +kernel
theorem dX3_addRule_52 : decode cX3_addRule 52 = .ok (.aload_n 0, 1) := by decide +kernel
theorem dX3_addRule_53 : decode cX3_addRule 53 = .ok (.dup, 1) := by decide +kernel
theorem dX3_addRule_54 : decode cX3_addRule 54 = .ok (.getfield 31, 3) := by decide +kernel
theorem dX3_addRule_57 : decode cX3_addRule 57 = .ok (.iconst 1, 1) := by decide +kernel
theorem dX3_addRule_58 : decode cX3_addRule 58 = .ok (.iadd, 1) := by decide +kernel
theorem dX3_addRule_59 : decode cX3_addRule 59 = .ok (.putfield 31, 3) := by decide +kernel
theorem dX3_addRule_62 : decode cX3_addRule 62 = .ok (.return_, 1) := by decide +kernel
theorem dX3_silences_0 : decode cX3_silences 0 = .ok (.iconst 0, 1) := by decide +kernel
theorem dX3_silences_1 : decode cX3_silences 1 = .ok (.istore_n 2, 1) := by decide +kernel
theorem dX3_silences_2 : decode cX3_silences 2 = .ok (.iload_n 2, 1) := by decide +kernel
theorem dX3_silences_3 : decode cX3_silences 3 = .ok (.aload_n 0, 1) := by decide +kernel
theorem dX3_silences_4 : decode cX3_silences 4 = .ok (.getfield 31, 3) := by decide +kernel
theorem dX3_silences_7 : decode cX3_silences 7 = .ok (.if_icmp .ge 48, 3) := by decide +kernel
theorem dX3_silences_10 : decode cX3_silences 10 = .ok (.aload_n 0, 1) := by decide +kernel
theorem dX3_silences_11 : decode cX3_silences 11 = .ok (.getfield 16, 3) := by decide +kernel
theorem dX3_silences_14 : decode cX3_silences 14 = .ok (.iload_n 2, 1) := by decide +kernel
theorem dX3_silences_15 : decode cX3_silences 15 = .ok (.iaload, 1) := by decide +kernel
theorem dX3_silences_16 : decode cX3_silences 16 = .ok (.iconst 4, 1) := by decide +kernel
theorem dX3_silences_17 : decode cX3_silences 17 = .ok (.if_icmp .ne 32, 3) := by decide +kernel
theorem dX3_silences_20 : decode cX3_silences 20 = .ok (.aload_n 0, 1) := by decide +kernel
theorem dX3_silences_21 : decode cX3_silences 21 = .ok (.aload_n 0, 1) := by decide +kernel
theorem dX3_silences_22 : decode cX3_silences 22 = .ok (.getfield 22, 3) := by decide +kernel
theorem dX3_silences_25 : decode cX3_silences 25 = .ok (.iload_n 2, 1) := by decide +kernel
theorem dX3_silences_26 : decode cX3_silences 26 = .ok (.iaload, 1) := by decide +kernel
theorem dX3_silences_27 : decode cX3_silences 27 = .ok (.aload_n 0, 1) := by decide +kernel
theorem dX3_silences_28 : decode cX3_silences 28 = .ok (.getfield 25, 3) := by decide +kernel
theorem dX3_silences_31 : decode cX3_silences 31 = .ok (.iload_n 2, 1) := by decide +kernel
theorem dX3_silences_32 : decode cX3_silences 32 = .ok (.iaload, 1) := by decide +kernel
theorem dX3_silences_33 : decode cX3_silences 33 = .ok (.aload_n 1, 1) := by decide +kernel
theorem dX3_silences_34 : decode cX3_silences 34 = .ok (.invokevirtual 42, 3) := by decide +kernel
theorem dX3_silences_37 : decode cX3_silences 37 = .ok (.ifCond .eq 12, 3) := by decide +kernel
theorem dX3_silences_40 : decode cX3_silences 40 = .ok (.aload_n 0, 1) := by decide +kernel
theorem dX3_silences_41 : decode cX3_silences 41 = .ok (.getfield 46, 3) := by decide +kernel
theorem dX3_silences_44 : decode cX3_silences 44 = .ok (.ifCond .eq 5, 3) := by decide +kernel
theorem dX3_silences_47 : decode cX3_silences 47 = .ok (.iconst 1, 1) := by decide +kernel
theorem dX3_silences_48 : decode cX3_silences 48 = .ok (.ireturn, 1) := by decide +kernel
theorem dX3_silences_49 : decode cX3_silences 49 = .ok (.iinc 2 1, 3) := by decide +kernel
theorem dX3_silences_52 : decode cX3_silences 52 = .ok (.goto (-50), 3) := by decide +kernel
theorem dX3_silences_55 : decode cX3_silences 55 = .ok (.iconst 0, 1) := by decide +kernel
theorem dX3_silences_56 : decode cX3_silences 56 = .ok (.ireturn, 1) := by decide +kernel
theorem dX3_worth_0 : decode cX3_worth 0 = .ok (.iconst 0, 1) := by decide +kernel
theorem dX3_worth_1 : decode cX3_worth 1 = .ok (.istore_n 3, 1) := by decide +kernel
theorem dX3_worth_2 : decode cX3_worth 2 = .ok (.iload_n 3, 1) := by decide +kernel
theorem dX3_worth_3 : decode cX3_worth 3 = .ok (.aload_n 0, 1) := by decide +kernel
theorem dX3_worth_4 : decode cX3_worth 4 = .ok (.getfield 31, 3) := by decide +kernel
theorem dX3_worth_7 : decode cX3_worth 7 = .ok (.if_icmp .ge 92, 3) := by decide +kernel
theorem dX3_worth_10 : decode cX3_worth 10 = .ok (.aload_n 0, 1) := by decide +kernel
theorem dX3_worth_11 : decode cX3_worth 11 = .ok (.getfield 16, 3) := by decide +kernel
theorem dX3_worth_14 : decode cX3_worth 14 = .ok (.iload_n 3, 1) := by decide +kernel
theorem dX3_worth_15 : decode cX3_worth 15 = .ok (.iaload, 1) := by decide +kernel
theorem dX3_worth_16 : decode cX3_worth 16 = .ok (.iload_n 1, 1) := by decide +kernel
theorem dX3_worth_17 : decode cX3_worth 17 = .ok (.if_icmp .ne 76, 3) := by decide +kernel
theorem dX3_worth_20 : decode cX3_worth 20 = .ok (.aload_n 0, 1) := by decide +kernel
theorem dX3_worth_21 : decode cX3_worth 21 = .ok (.aload_n 0, 1) := by decide +kernel
theorem dX3_worth_22 : decode cX3_worth 22 = .ok (.getfield 22, 3) := by decide +kernel
theorem dX3_worth_25 : decode cX3_worth 25 = .ok (.iload_n 3, 1) := by decide +kernel
theorem dX3_worth_26 : decode cX3_worth 26 = .ok (.iaload, 1) := by decide +kernel
theorem dX3_worth_27 : decode cX3_worth 27 = .ok (.aload_n 0, 1) := by decide +kernel
theorem dX3_worth_28 : decode cX3_worth 28 = .ok (.getfield 25, 3) := by decide +kernel
theorem dX3_worth_31 : decode cX3_worth 31 = .ok (.iload_n 3, 1) := by decide +kernel
theorem dX3_worth_32 : decode cX3_worth 32 = .ok (.iaload, 1) := by decide +kernel
theorem dX3_worth_33 : decode cX3_worth 33 = .ok (.aload_n 2, 1) := by decide +kernel
theorem dX3_worth_34 : decode cX3_worth 34 = .ok (.invokevirtual 42, 3) := by decide +kernel
theorem dX3_worth_37 : decode cX3_worth 37 = .ok (.ifCond .eq 56, 3) := by decide +kernel
theorem dX3_worth_40 : decode cX3_worth 40 = .ok (.aload_n 0, 1) := by decide +kernel
theorem dX3_worth_41 : decode cX3_worth 41 = .ok (.getfield 46, 3) := by decide +kernel
theorem dX3_worth_44 : decode cX3_worth 44 = .ok (.ifCond .eq 49, 3) := by decide +kernel
theorem dX3_worth_47 : decode cX3_worth 47 = .ok (.aload_n 0, 1) := by decide +kernel
theorem dX3_worth_48 : decode cX3_worth 48 = .ok (.aload_n 0, 1) := by decide +kernel
theorem dX3_worth_49 : decode cX3_worth 49 = .ok (.getfield 19, 3) := by decide +kernel
theorem dX3_worth_52 : decode cX3_worth 52 = .ok (.iload_n 3, 1) := by decide +kernel
theorem dX3_worth_53 : decode cX3_worth 53 = .ok (.iaload, 1) := by decide +kernel
theorem dX3_worth_54 : decode cX3_worth 54 = .ok (.aload_n 0, 1) := by decide +kernel
theorem dX3_worth_55 : decode cX3_worth 55 = .ok (.getfield 22, 3) := by decide +kernel
theorem dX3_worth_58 : decode cX3_worth 58 = .ok (.iload_n 3, 1) := by decide +kernel
theorem dX3_worth_59 : decode cX3_worth 59 = .ok (.iaload, 1) := by decide +kernel
theorem dX3_worth_60 : decode cX3_worth 60 = .ok (.aload_n 2, 1) := by decide +kernel
theorem dX3_worth_61 : decode cX3_worth 61 = .ok (.invokevirtual 42, 3) := by decide +kernel
theorem dX3_worth_64 : decode cX3_worth 64 = .ok (.ifCond .eq 12, 3) := by decide +kernel
theorem dX3_worth_67 : decode cX3_worth 67 = .ok (.aload_n 0, 1) := by decide +kernel
theorem dX3_worth_68 : decode cX3_worth 68 = .ok (.getfield 28, 3) := by decide +kernel
theorem dX3_worth_71 : decode cX3_worth 71 = .ok (.iconst 0, 1) := by decide +kernel
theorem dX3_worth_72 : decode cX3_worth 72 = .ok (.iaload, 1) := by decide +kernel
theorem dX3_worth_73 : decode cX3_worth 73 = .ok (.goto 4, 3) := by decide +kernel
theorem dX3_worth_76 : decode cX3_worth 76 = .ok (.iconst 0, 1) := by decide +kernel
theorem dX3_worth_77 : decode cX3_worth 77 = .ok (.istore 4, 2) := by decide +kernel
theorem dX3_worth_79 : decode cX3_worth 79 = .ok (.iconst 0, 1) := by decide +kernel
theorem dX3_worth_80 : decode cX3_worth 80 = .ok (.iload 4, 2) := by decide +kernel
theorem dX3_worth_82 : decode cX3_worth 82 = .ok (.iload_n 1, 1) := by decide +kernel
theorem dX3_worth_83 : decode cX3_worth 83 = .ok (.invokestatic 50, 3) := by decide +kernel
theorem dX3_worth_86 : decode cX3_worth 86 = .ok (.invokestatic 54, 3) := by decide +kernel
theorem dX3_worth_89 : decode cX3_worth 89 = .ok (.invokestatic 60, 3) := by decide +kernel
theorem dX3_worth_92 : decode cX3_worth 92 = .ok (.ireturn, 1) := by decide +kernel
theorem dX3_worth_93 : decode cX3_worth 93 = .ok (.iinc 3 1, 3) := by decide +kernel
theorem dX3_worth_96 : decode cX3_worth 96 = .ok (.goto (-94), 3) := by decide +kernel
theorem dX3_worth_99 : decode cX3_worth 99 = .ok (.iconst 0, 1) := by decide +kernel
theorem dX3_worth_100 : decode cX3_worth 100 = .ok (.ireturn, 1) := by decide +kernel
theorem dX3_highestOf_0 : decode cX3_highestOf 0 = .ok (.iload_n 0, 1) := by decide +kernel
theorem dX3_highestOf_1 : decode cX3_highestOf 1 = .ok (.ifCond .lt 19, 3) := by decide +kernel
theorem dX3_highestOf_4 : decode cX3_highestOf 4 = .ok (.iload_n 0, 1) := by decide +kernel
theorem dX3_highestOf_5 : decode cX3_highestOf 5 = .ok (.getstatic 63, 3) := by decide +kernel
theorem dX3_highestOf_8 : decode cX3_highestOf 8 = .ok (.arraylength, 1) := by decide +kernel
theorem dX3_highestOf_9 : decode cX3_highestOf 9 = .ok (.if_icmp .ge 11, 3) := by decide +kernel
theorem dX3_highestOf_12 : decode cX3_highestOf 12 = .ok (.getstatic 63, 3) := by decide +kernel
theorem dX3_highestOf_15 : decode cX3_highestOf 15 = .ok (.iload_n 0, 1) := by decide +kernel
theorem dX3_highestOf_16 : decode cX3_highestOf 16 = .ok (.iaload, 1) := by decide +kernel
theorem dX3_highestOf_17 : decode cX3_highestOf 17 = .ok (.goto 4, 3) := by decide +kernel
theorem dX3_highestOf_20 : decode cX3_highestOf 20 = .ok (.iconst 0, 1) := by decide +kernel
theorem dX3_highestOf_21 : decode cX3_highestOf 21 = .ok (.ireturn, 1) := by decide +kernel
theorem dX3_reckon_0 : decode cX3_reckon 0 = .ok (.aload_n 0, 1) := by decide +kernel
theorem dX3_reckon_1 : decode cX3_reckon 1 = .ok (.iconst 0, 1) := by decide +kernel
theorem dX3_reckon_2 : decode cX3_reckon 2 = .ok (.putfield 66, 3) := by decide +kernel
theorem dX3_reckon_5 : decode cX3_reckon 5 = .ok (.aload_n 0, 1) := by decide +kernel
theorem dX3_reckon_6 : decode cX3_reckon 6 = .ok (.iconst 0, 1) := by decide +kernel
theorem dX3_reckon_7 : decode cX3_reckon 7 = .ok (.putfield 46, 3) := by decide +kernel
theorem dX3_reckon_10 : decode cX3_reckon 10 = .ok (.iload_n 1, 1) := by decide +kernel
theorem dX3_reckon_11 : decode cX3_reckon 11 = .ok (.istore 4, 2) := by decide +kernel
theorem dX3_reckon_13 : decode cX3_reckon 13 = .ok (.iconst 0, 1) := by decide +kernel
theorem dX3_reckon_14 : decode cX3_reckon 14 = .ok (.istore 5, 2) := by decide +kernel
theorem dX3_reckon_16 : decode cX3_reckon 16 = .ok (.iload 5, 2) := by decide +kernel
theorem dX3_reckon_18 : decode cX3_reckon 18 = .ok (.sipush 240, 3) := by decide +kernel
theorem dX3_reckon_21 : decode cX3_reckon 21 = .ok (.if_icmp .ge 198, 3) := by decide +kernel
theorem dX3_reckon_24 : decode cX3_reckon 24 = .ok (.iload 4, 2) := by decide +kernel
theorem dX3_reckon_26 : decode cX3_reckon 26 = .ok (.ifCond .lt 193, 3) := by decide +kernel
theorem dX3_reckon_29 : decode cX3_reckon 29 = .ok (.iload 4, 2) := by decide +kernel
theorem dX3_reckon_31 : decode cX3_reckon 31 = .ok (.iload_n 2, 1) := by decide +kernel
theorem dX3_reckon_32 : decode cX3_reckon 32 = .ok (.if_icmp .ge 187, 3) := by decide +kernel
theorem dX3_reckon_35 : decode cX3_reckon 35 = .ok (.iload 4, 2) := by decide +kernel
theorem dX3_reckon_37 : decode cX3_reckon 37 = .ok (.aload_n 0, 1) := by decide +kernel
theorem dX3_reckon_38 : decode cX3_reckon 38 = .ok (.getfield 35, 3) := by decide +kernel
theorem dX3_reckon_41 : decode cX3_reckon 41 = .ok (.if_icmp .ge 178, 3) := by decide +kernel
theorem dX3_reckon_44 : decode cX3_reckon 44 = .ok (.aload_n 0, 1) := by decide +kernel
theorem dX3_reckon_45 : decode cX3_reckon 45 = .ok (.getfield 13, 3) := by decide +kernel
theorem dX3_reckon_48 : decode cX3_reckon 48 = .ok (.iload 4, 2) := by decide +kernel
theorem dX3_reckon_50 : decode cX3_reckon 50 = .ok (.iaload, 1) := by decide +kernel
theorem dX3_reckon_51 : decode cX3_reckon 51 = .ok (.istore 6, 2) := by decide +kernel
theorem dX3_reckon_53 : decode cX3_reckon 53 = .ok (.iload 4, 2) := by decide +kernel
theorem dX3_reckon_55 : decode cX3_reckon 55 = .ok (.iconst 1, 1) := by decide +kernel
theorem dX3_reckon_56 : decode cX3_reckon 56 = .ok (.iadd, 1) := by decide +kernel
theorem dX3_reckon_57 : decode cX3_reckon 57 = .ok (.istore 7, 2) := by decide +kernel
theorem dX3_reckon_59 : decode cX3_reckon 59 = .ok (.aload_n 0, 1) := by decide +kernel
theorem dX3_reckon_60 : decode cX3_reckon 60 = .ok (.getfield 9, 3) := by decide +kernel
theorem dX3_reckon_63 : decode cX3_reckon 63 = .ok (.iload 4, 2) := by decide +kernel
theorem dX3_reckon_65 : decode cX3_reckon 65 = .ok (.iaload, 1) := by decide +kernel
theorem dX3_reckon_66 : decode cX3_reckon 66 = .ok (.tableswitch 127 0 4 #[34, 43, 70, 89, 108], 34) := by decide +kernel
theorem dX3_reckon_100 : decode cX3_reckon 100 = .ok (.aload_n 0, 1) := by decide +kernel
theorem dX3_reckon_101 : decode cX3_reckon 101 = .ok (.iload 6, 2) := by decide +kernel
theorem dX3_reckon_103 : decode cX3_reckon 103 = .ok (.invokevirtual 69, 3) := by decide +kernel
theorem dX3_reckon_106 : decode cX3_reckon 106 = .ok (.goto 103, 3) := by decide +kernel
theorem dX3_reckon_109 : decode cX3_reckon 109 = .ok (.aload_n 0, 1) := by decide +kernel
theorem dX3_reckon_110 : decode cX3_reckon 110 = .ok (.iload 6, 2) := by decide +kernel
theorem dX3_reckon_112 : decode cX3_reckon 112 = .ok (.ifCond .lt 17, 3) := by decide +kernel
theorem dX3_reckon_115 : decode cX3_reckon 115 = .ok (.iload 6, 2) := by decide +kernel
theorem dX3_reckon_117 : decode cX3_reckon 117 = .ok (.aload_n 3, 1) := by decide +kernel
theorem dX3_reckon_118 : decode cX3_reckon 118 = .ok (.arraylength, 1) := by decide +kernel
theorem dX3_reckon_119 : decode cX3_reckon 119 = .ok (.if_icmp .ge 10, 3) := by decide +kernel
theorem dX3_reckon_122 : decode cX3_reckon 122 = .ok (.aload_n 3, 1) := by decide +kernel
theorem dX3_reckon_123 : decode cX3_reckon 123 = .ok (.iload 6, 2) := by decide +kernel
theorem dX3_reckon_125 : decode cX3_reckon 125 = .ok (.iaload, 1) := by decide +kernel
theorem dX3_reckon_126 : decode cX3_reckon 126 = .ok (.goto 4, 3) := by decide +kernel
theorem dX3_reckon_129 : decode cX3_reckon 129 = .ok (.iconst 0, 1) := by decide +kernel
theorem dX3_reckon_130 : decode cX3_reckon 130 = .ok (.invokevirtual 69, 3) := by decide +kernel
theorem dX3_reckon_133 : decode cX3_reckon 133 = .ok (.goto 76, 3) := by decide +kernel
theorem dX3_reckon_136 : decode cX3_reckon 136 = .ok (.aload_n 0, 1) := by decide +kernel
theorem dX3_reckon_137 : decode cX3_reckon 137 = .ok (.aload_n 0, 1) := by decide +kernel
theorem dX3_reckon_138 : decode cX3_reckon 138 = .ok (.getfield 46, 3) := by decide +kernel
theorem dX3_reckon_141 : decode cX3_reckon 141 = .ok (.ifCond .ne 7, 3) := by decide +kernel
theorem dX3_reckon_144 : decode cX3_reckon 144 = .ok (.iconst 1, 1) := by decide +kernel
theorem dX3_reckon_145 : decode cX3_reckon 145 = .ok (.goto 4, 3) := by decide +kernel
theorem dX3_reckon_148 : decode cX3_reckon 148 = .ok (.iconst 0, 1) := by decide +kernel
theorem dX3_reckon_149 : decode cX3_reckon 149 = .ok (.putfield 46, 3) := by decide +kernel
theorem dX3_reckon_152 : decode cX3_reckon 152 = .ok (.goto 57, 3) := by decide +kernel
theorem dX3_reckon_155 : decode cX3_reckon 155 = .ok (.aload_n 0, 1) := by decide +kernel
theorem dX3_reckon_156 : decode cX3_reckon 156 = .ok (.getfield 46, 3) := by decide +kernel
theorem dX3_reckon_159 : decode cX3_reckon 159 = .ok (.ifCond .eq 8, 3) := by decide +kernel
theorem dX3_reckon_162 : decode cX3_reckon 162 = .ok (.iload 6, 2) := by decide +kernel
theorem dX3_reckon_164 : decode cX3_reckon 164 = .ok (.goto 5, 3) := by decide +kernel
theorem dX3_reckon_167 : decode cX3_reckon 167 = .ok (.iload 7, 2) := by decide +kernel
theorem dX3_reckon_169 : decode cX3_reckon 169 = .ok (.istore 7, 2) := by decide +kernel
theorem dX3_reckon_171 : decode cX3_reckon 171 = .ok (.goto 38, 3) := by decide +kernel
theorem dX3_reckon_174 : decode cX3_reckon 174 = .ok (.aload_n 0, 1) := by decide +kernel
theorem dX3_reckon_175 : decode cX3_reckon 175 = .ok (.getfield 46, 3) := by decide +kernel
theorem dX3_reckon_178 : decode cX3_reckon 178 = .ok (.ifCond .eq 8, 3) := by decide +kernel
theorem dX3_reckon_181 : decode cX3_reckon 181 = .ok (.iload 7, 2) := by decide +kernel
theorem dX3_reckon_183 : decode cX3_reckon 183 = .ok (.goto 5, 3) := by decide +kernel
theorem dX3_reckon_186 : decode cX3_reckon 186 = .ok (.iload 6, 2) := by decide +kernel
theorem dX3_reckon_188 : decode cX3_reckon 188 = .ok (.istore 7, 2) := by decide +kernel
theorem dX3_reckon_190 : decode cX3_reckon 190 = .ok (.goto 19, 3) := by decide +kernel
theorem dX3_reckon_193 : decode cX3_reckon 193 = .ok (.aload_n 0, 1) := by decide +kernel
theorem dX3_reckon_194 : decode cX3_reckon 194 = .ok (.aload_n 0, 1) := by decide +kernel
theorem dX3_reckon_195 : decode cX3_reckon 195 = .ok (.getfield 9, 3) := by decide +kernel
theorem dX3_reckon_198 : decode cX3_reckon 198 = .ok (.iload 4, 2) := by decide +kernel
theorem dX3_reckon_200 : decode cX3_reckon 200 = .ok (.iaload, 1) := by decide +kernel
theorem dX3_reckon_201 : decode cX3_reckon 201 = .ok (.invokevirtual 73, 3) := by decide +kernel
theorem dX3_reckon_204 : decode cX3_reckon 204 = .ok (.ifCond .ne 5, 3) := by decide +kernel
theorem dX3_reckon_207 : decode cX3_reckon 207 = .ok (.iconst 0, 1) := by decide +kernel
theorem dX3_reckon_208 : decode cX3_reckon 208 = .ok (.ireturn, 1) := by decide +kernel
theorem dX3_reckon_209 : decode cX3_reckon 209 = .ok (.iload 7, 2) := by decide +kernel
theorem dX3_reckon_211 : decode cX3_reckon 211 = .ok (.istore 4, 2) := by decide +kernel
theorem dX3_reckon_213 : decode cX3_reckon 213 = .ok (.iinc 5 1, 3) := by decide +kernel
theorem dX3_reckon_216 : decode cX3_reckon 216 = .ok (.goto (-200), 3) := by decide +kernel
theorem dX3_reckon_219 : decode cX3_reckon 219 = .ok (.iconst 1, 1) := by decide +kernel
theorem dX3_reckon_220 : decode cX3_reckon 220 = .ok (.ireturn, 1) := by decide +kernel
theorem dX3_push_0 : decode cX3_push 0 = .ok (.aload_n 0, 1) := by decide +kernel
theorem dX3_push_1 : decode cX3_push 1 = .ok (.getfield 66, 3) := by decide +kernel
theorem dX3_push_4 : decode cX3_push 4 = .ok (.bipush 32, 2) := by decide +kernel
theorem dX3_push_6 : decode cX3_push 6 = .ok (.if_icmp .ge 23, 3) := by decide +kernel
theorem dX3_push_9 : decode cX3_push 9 = .ok (.aload_n 0, 1) := by decide +kernel
theorem dX3_push_10 : decode cX3_push 10 = .ok (.getfield 28, 3) := by decide +kernel
theorem dX3_push_13 : decode cX3_push 13 = .ok (.aload_n 0, 1) := by decide +kernel
theorem dX3_push_14 : decode cX3_push 14 = .ok (.getfield 66, 3) := by decide +kernel
theorem dX3_push_17 : decode cX3_push 17 = .ok (.iload_n 1, 1) := by decide +kernel
theorem dX3_push_18 : decode cX3_push 18 = .ok (.iastore, 1) := by decide +kernel
theorem dX3_push_19 : decode cX3_push 19 = .ok (.aload_n 0, 1) := by decide +kernel
theorem dX3_push_20 : decode cX3_push 20 = .ok (.dup, 1) := by decide +kernel
theorem dX3_push_21 : decode cX3_push 21 = .ok (.getfield 66, 3) := by decide +kernel
theorem dX3_push_24 : decode cX3_push 24 = .ok (.iconst 1, 1) := by decide +kernel
theorem dX3_push_25 : decode cX3_push 25 = .ok (.iadd, 1) := by decide +kernel
theorem dX3_push_26 : decode cX3_push 26 = .ok (.putfield 66, 3) := by decide +kernel
theorem dX3_push_29 : decode cX3_push 29 = .ok (.return_, 1) := by decide +kernel
theorem dX3_combine_0 : decode cX3_combine 0 = .ok (.aload_n 0, 1) := by decide +kernel
theorem dX3_combine_1 : decode cX3_combine 1 = .ok (.getfield 66, 3) := by decide +kernel
theorem dX3_combine_4 : decode cX3_combine 4 = .ok (.iconst 2, 1) := by decide +kernel
theorem dX3_combine_5 : decode cX3_combine 5 = .ok (.if_icmp .lt 12, 3) := by decide +kernel
theorem dX3_combine_8 : decode cX3_combine 8 = .ok (.aload_n 0, 1) := by decide +kernel
theorem dX3_combine_9 : decode cX3_combine 9 = .ok (.getfield 66, 3) := by decide +kernel
theorem dX3_combine_12 : decode cX3_combine 12 = .ok (.bipush 32, 2) := by decide +kernel
theorem dX3_combine_14 : decode cX3_combine 14 = .ok (.if_icmp .le 5, 3) := by decide +kernel
theorem dX3_combine_17 : decode cX3_combine 17 = .ok (.iconst 0, 1) := by decide +kernel
theorem dX3_combine_18 : decode cX3_combine 18 = .ok (.ireturn, 1) := by decide +kernel
theorem dX3_combine_19 : decode cX3_combine 19 = .ok (.aload_n 0, 1) := by decide +kernel
theorem dX3_combine_20 : decode cX3_combine 20 = .ok (.getfield 28, 3) := by decide +kernel
theorem dX3_combine_23 : decode cX3_combine 23 = .ok (.aload_n 0, 1) := by decide +kernel
theorem dX3_combine_24 : decode cX3_combine 24 = .ok (.getfield 66, 3) := by decide +kernel
theorem dX3_combine_27 : decode cX3_combine 27 = .ok (.iconst 2, 1) := by decide +kernel
theorem dX3_combine_28 : decode cX3_combine 28 = .ok (.isub, 1) := by decide +kernel
theorem dX3_combine_29 : decode cX3_combine 29 = .ok (.iaload, 1) := by decide +kernel
theorem dX3_combine_30 : decode cX3_combine 30 = .ok (.istore_n 2, 1) := by decide +kernel
theorem dX3_combine_31 : decode cX3_combine 31 = .ok (.aload_n 0, 1) := by decide +kernel
theorem dX3_combine_32 : decode cX3_combine 32 = .ok (.getfield 28, 3) := by decide +kernel
theorem dX3_combine_35 : decode cX3_combine 35 = .ok (.aload_n 0, 1) := by decide +kernel
theorem dX3_combine_36 : decode cX3_combine 36 = .ok (.getfield 66, 3) := by decide +kernel
theorem dX3_combine_39 : decode cX3_combine 39 = .ok (.iconst 1, 1) := by decide +kernel
theorem dX3_combine_40 : decode cX3_combine 40 = .ok (.isub, 1) := by decide +kernel
theorem dX3_combine_41 : decode cX3_combine 41 = .ok (.iaload, 1) := by decide +kernel
theorem dX3_combine_42 : decode cX3_combine 42 = .ok (.istore_n 3, 1) := by decide +kernel
theorem dX3_combine_43 : decode cX3_combine 43 = .ok (.iload_n 1, 1) := by decide +kernel
theorem dX3_combine_44 : decode cX3_combine 44 = .ok (.lookupswitch 162 #[(42, 145), (43, 111), (45, 128), (60, 60), (61, 94), (62, 77)], 60) := by decide +kernel
theorem dX3_combine_104 : decode cX3_combine 104 = .ok (.aload_n 0, 1) := by decide +kernel
theorem dX3_combine_105 : decode cX3_combine 105 = .ok (.iload_n 2, 1) := by decide +kernel
theorem dX3_combine_106 : decode cX3_combine 106 = .ok (.iload_n 3, 1) := by decide +kernel
theorem dX3_combine_107 : decode cX3_combine 107 = .ok (.if_icmp .ge 7, 3) := by decide +kernel
theorem dX3_combine_110 : decode cX3_combine 110 = .ok (.iconst 1, 1) := by decide +kernel
theorem dX3_combine_111 : decode cX3_combine 111 = .ok (.goto 4, 3) := by decide +kernel
theorem dX3_combine_114 : decode cX3_combine 114 = .ok (.iconst 0, 1) := by decide +kernel
theorem dX3_combine_115 : decode cX3_combine 115 = .ok (.putfield 46, 3) := by decide +kernel
theorem dX3_combine_118 : decode cX3_combine 118 = .ok (.goto 120, 3) := by decide +kernel
theorem dX3_combine_121 : decode cX3_combine 121 = .ok (.aload_n 0, 1) := by decide +kernel
theorem dX3_combine_122 : decode cX3_combine 122 = .ok (.iload_n 2, 1) := by decide +kernel
theorem dX3_combine_123 : decode cX3_combine 123 = .ok (.iload_n 3, 1) := by decide +kernel
theorem dX3_combine_124 : decode cX3_combine 124 = .ok (.if_icmp .le 7, 3) := by decide +kernel
theorem dX3_combine_127 : decode cX3_combine 127 = .ok (.iconst 1, 1) := by decide +kernel
theorem dX3_combine_128 : decode cX3_combine 128 = .ok (.goto 4, 3) := by decide +kernel
theorem dX3_combine_131 : decode cX3_combine 131 = .ok (.iconst 0, 1) := by decide +kernel
theorem dX3_combine_132 : decode cX3_combine 132 = .ok (.putfield 46, 3) := by decide +kernel
theorem dX3_combine_135 : decode cX3_combine 135 = .ok (.goto 103, 3) := by decide +kernel
theorem dX3_combine_138 : decode cX3_combine 138 = .ok (.aload_n 0, 1) := by decide +kernel
theorem dX3_combine_139 : decode cX3_combine 139 = .ok (.iload_n 2, 1) := by decide +kernel
theorem dX3_combine_140 : decode cX3_combine 140 = .ok (.iload_n 3, 1) := by decide +kernel
theorem dX3_combine_141 : decode cX3_combine 141 = .ok (.if_icmp .ne 7, 3) := by decide +kernel
theorem dX3_combine_144 : decode cX3_combine 144 = .ok (.iconst 1, 1) := by decide +kernel
theorem dX3_combine_145 : decode cX3_combine 145 = .ok (.goto 4, 3) := by decide +kernel
theorem dX3_combine_148 : decode cX3_combine 148 = .ok (.iconst 0, 1) := by decide +kernel
theorem dX3_combine_149 : decode cX3_combine 149 = .ok (.putfield 46, 3) := by decide +kernel
theorem dX3_combine_152 : decode cX3_combine 152 = .ok (.goto 86, 3) := by decide +kernel
theorem dX3_combine_155 : decode cX3_combine 155 = .ok (.aload_n 0, 1) := by decide +kernel
theorem dX3_combine_156 : decode cX3_combine 156 = .ok (.getfield 28, 3) := by decide +kernel
theorem dX3_combine_159 : decode cX3_combine 159 = .ok (.aload_n 0, 1) := by decide +kernel
theorem dX3_combine_160 : decode cX3_combine 160 = .ok (.getfield 66, 3) := by decide +kernel
theorem dX3_combine_163 : decode cX3_combine 163 = .ok (.iconst 2, 1) := by decide +kernel
theorem dX3_combine_164 : decode cX3_combine 164 = .ok (.isub, 1) := by decide +kernel
theorem dX3_combine_165 : decode cX3_combine 165 = .ok (.iload_n 2, 1) := by decide +kernel
theorem dX3_combine_166 : decode cX3_combine 166 = .ok (.iload_n 3, 1) := by decide +kernel
theorem dX3_combine_167 : decode cX3_combine 167 = .ok (.iadd, 1) := by decide +kernel
theorem dX3_combine_168 : decode cX3_combine 168 = .ok (.iastore, 1) := by decide +kernel
theorem dX3_combine_169 : decode cX3_combine 169 = .ok (.goto 69, 3) := by decide +kernel
theorem dX3_combine_172 : decode cX3_combine 172 = .ok (.aload_n 0, 1) := by decide +kernel
theorem dX3_combine_173 : decode cX3_combine 173 = .ok (.getfield 28, 3) := by decide +kernel
theorem dX3_combine_176 : decode cX3_combine 176 = .ok (.aload_n 0, 1) := by decide +kernel
theorem dX3_combine_177 : decode cX3_combine 177 = .ok (.getfield 66, 3) := by decide +kernel
theorem dX3_combine_180 : decode cX3_combine 180 = .ok (.iconst 2, 1) := by decide +kernel
theorem dX3_combine_181 : decode cX3_combine 181 = .ok (.isub, 1) := by decide +kernel
theorem dX3_combine_182 : decode cX3_combine 182 = .ok (.iload_n 2, 1) := by decide +kernel
theorem dX3_combine_183 : decode cX3_combine 183 = .ok (.iload_n 3, 1) := by decide +kernel
theorem dX3_combine_184 : decode cX3_combine 184 = .ok (.isub, 1) := by decide +kernel
theorem dX3_combine_185 : decode cX3_combine 185 = .ok (.iastore, 1) := by decide +kernel
theorem dX3_combine_186 : decode cX3_combine 186 = .ok (.goto 52, 3) := by decide +kernel
theorem dX3_combine_189 : decode cX3_combine 189 = .ok (.aload_n 0, 1) := by decide +kernel
theorem dX3_combine_190 : decode cX3_combine 190 = .ok (.getfield 28, 3) := by decide +kernel
theorem dX3_combine_193 : decode cX3_combine 193 = .ok (.aload_n 0, 1) := by decide +kernel
theorem dX3_combine_194 : decode cX3_combine 194 = .ok (.getfield 66, 3) := by decide +kernel
theorem dX3_combine_197 : decode cX3_combine 197 = .ok (.iconst 2, 1) := by decide +kernel
theorem dX3_combine_198 : decode cX3_combine 198 = .ok (.isub, 1) := by decide +kernel
theorem dX3_combine_199 : decode cX3_combine 199 = .ok (.iload_n 2, 1) := by decide +kernel
theorem dX3_combine_200 : decode cX3_combine 200 = .ok (.iload_n 3, 1) := by decide +kernel
theorem dX3_combine_201 : decode cX3_combine 201 = .ok (.imul, 1) := by decide +kernel
theorem dX3_combine_202 : decode cX3_combine 202 = .ok (.iastore, 1) := by decide +kernel
theorem dX3_combine_203 : decode cX3_combine 203 = .ok (.goto 35, 3) := by decide +kernel
theorem dX3_combine_206 : decode cX3_combine 206 = .ok (.iload_n 3, 1) := by decide +kernel
theorem dX3_combine_207 : decode cX3_combine 207 = .ok (.ifCond .ne 5, 3) := by decide +kernel
theorem dX3_combine_210 : decode cX3_combine 210 = .ok (.iconst 0, 1) := by decide +kernel
theorem dX3_combine_211 : decode cX3_combine 211 = .ok (.ireturn, 1) := by decide +kernel
theorem dX3_combine_212 : decode cX3_combine 212 = .ok (.aload_n 0, 1) := by decide +kernel
theorem dX3_combine_213 : decode cX3_combine 213 = .ok (.getfield 28, 3) := by decide +kernel
theorem dX3_combine_216 : decode cX3_combine 216 = .ok (.aload_n 0, 1) := by decide +kernel
theorem dX3_combine_217 : decode cX3_combine 217 = .ok (.getfield 66, 3) := by decide +kernel
theorem dX3_combine_220 : decode cX3_combine 220 = .ok (.iconst 2, 1) := by decide +kernel
theorem dX3_combine_221 : decode cX3_combine 221 = .ok (.isub, 1) := by decide +kernel
theorem dX3_combine_222 : decode cX3_combine 222 = .ok (.iload_n 1, 1) := by decide +kernel
theorem dX3_combine_223 : decode cX3_combine 223 = .ok (.bipush 47, 2) := by decide +kernel
theorem dX3_combine_225 : decode cX3_combine 225 = .ok (.if_icmp .ne 9, 3) := by decide +kernel
theorem dX3_combine_228 : decode cX3_combine 228 = .ok (.iload_n 2, 1) := by decide +kernel
theorem dX3_combine_229 : decode cX3_combine 229 = .ok (.iload_n 3, 1) := by decide +kernel
theorem dX3_combine_230 : decode cX3_combine 230 = .ok (.idiv, 1) := by decide +kernel
theorem dX3_combine_231 : decode cX3_combine 231 = .ok (.goto 6, 3) := by decide +kernel
theorem dX3_combine_234 : decode cX3_combine 234 = .ok (.iload_n 2, 1) := by decide +kernel
theorem dX3_combine_235 : decode cX3_combine 235 = .ok (.iload_n 3, 1) := by decide +kernel
theorem dX3_combine_236 : decode cX3_combine 236 = .ok (.irem, 1) := by decide +kernel
theorem dX3_combine_237 : decode cX3_combine 237 = .ok (.iastore, 1) := by decide +kernel
theorem dX3_combine_238 : decode cX3_combine 238 = .ok (.aload_n 0, 1) := by decide +kernel
theorem dX3_combine_239 : decode cX3_combine 239 = .ok (.dup, 1) := by decide +kernel
theorem dX3_combine_240 : decode cX3_combine 240 = .ok (.getfield 66, 3) := by decide +kernel
theorem dX3_combine_243 : decode cX3_combine 243 = .ok (.iload_n 1, 1) := by decide +kernel
theorem dX3_combine_244 : decode cX3_combine 244 = .ok (.bipush 60, 2) := by decide +kernel
theorem dX3_combine_246 : decode cX3_combine 246 = .ok (.if_icmp .eq 15, 3) := by decide +kernel
theorem dX3_combine_249 : decode cX3_combine 249 = .ok (.iload_n 1, 1) := by decide +kernel
theorem dX3_combine_250 : decode cX3_combine 250 = .ok (.bipush 62, 2) := by decide +kernel
theorem dX3_combine_252 : decode cX3_combine 252 = .ok (.if_icmp .eq 9, 3) := by decide +kernel
theorem dX3_combine_255 : decode cX3_combine 255 = .ok (.iload_n 1, 1) := by decide +kernel
theorem dX3_combine_256 : decode cX3_combine 256 = .ok (.bipush 61, 2) := by decide +kernel
theorem dX3_combine_258 : decode cX3_combine 258 = .ok (.if_icmp .ne 7, 3) := by decide +kernel
theorem dX3_combine_261 : decode cX3_combine 261 = .ok (.iconst 2, 1) := by decide +kernel
theorem dX3_combine_262 : decode cX3_combine 262 = .ok (.goto 4, 3) := by decide +kernel
theorem dX3_combine_265 : decode cX3_combine 265 = .ok (.iconst 1, 1) := by decide +kernel
theorem dX3_combine_266 : decode cX3_combine 266 = .ok (.isub, 1) := by decide +kernel
theorem dX3_combine_267 : decode cX3_combine 267 = .ok (.putfield 66, 3) := by decide +kernel
theorem dX3_combine_270 : decode cX3_combine 270 = .ok (.iconst 1, 1) := by decide +kernel
theorem dX3_combine_271 : decode cX3_combine 271 = .ok (.ireturn, 1) := by decide +kernel
theorem dX4_init_0 : decode cX4_init 0 = .ok (.aload_n 0, 1) := by decide +kernel
theorem dX4_init_1 : decode cX4_init 1 = .ok (.invokespecial 3, 3) := by decide +kernel
theorem dX4_init_4 : decode cX4_init 4 = .ok (.aload_n 0, 1) := by decide +kernel
theorem dX4_init_5 : decode cX4_init 5 = .ok (.aload_n 1, 1) := by decide +kernel
theorem dX4_init_6 : decode cX4_init 6 = .ok (.putfield 9, 3) := by decide +kernel
theorem dX4_init_9 : decode cX4_init 9 = .ok (.aload_n 0, 1) := by decide +kernel
theorem dX4_init_10 : decode cX4_init 10 = .ok (.aload_n 2, 1) := by decide +kernel
theorem dX4_init_11 : decode cX4_init 11 = .ok (.putfield 15, 3) := by decide +kernel
theorem dX4_init_14 : decode cX4_init 14 = .ok (.return_, 1) := by decide +kernel
theorem dX4_readLaw_0 : decode cX4_readLaw 0 = .ok (.aload_n 0, 1) := by decide +kernel
theorem dX4_readLaw_1 : decode cX4_readLaw 1 = .ok (.aload_n 2, 1) := by decide +kernel
theorem dX4_readLaw_2 : decode cX4_readLaw 2 = .ok (.putfield 15, 3) := by decide +kernel
theorem dX4_readLaw_5 : decode cX4_readLaw 5 = .ok (.aload_n 0, 1) := by decide +kernel
theorem dX4_readLaw_6 : decode cX4_readLaw 6 = .ok (.getfield 15, 3) := by decide +kernel
theorem dX4_readLaw_9 : decode cX4_readLaw 9 = .ok (.invokevirtual 19, 3) := by decide +kernel
theorem dX4_readLaw_12 : decode cX4_readLaw 12 = .ok (.aload_n 0, 1) := by decide +kernel
theorem dX4_readLaw_13 : decode cX4_readLaw 13 = .ok (.getfield 9, 3) := by decide +kernel
theorem dX4_readLaw_16 : decode cX4_readLaw 16 = .ok (.iload_n 1, 1) := by decide +kernel
theorem dX4_readLaw_17 : decode cX4_readLaw 17 = .ok (.invokevirtual 24, 3) := by decide +kernel
theorem dX4_readLaw_20 : decode cX4_readLaw 20 = .ok (.aload_n 0, 1) := by decide +kernel
theorem dX4_readLaw_21 : decode cX4_readLaw 21 = .ok (.invokevirtual 30, 3) := by decide +kernel
theorem dX4_readLaw_24 : decode cX4_readLaw 24 = .ok (.istore_n 3, 1) := by decide +kernel
theorem dX4_readLaw_25 : decode cX4_readLaw 25 = .ok (.iconst 0, 1) := by decide +kernel
theorem dX4_readLaw_26 : decode cX4_readLaw 26 = .ok (.istore 4, 2) := by decide +kernel
theorem dX4_readLaw_28 : decode cX4_readLaw 28 = .ok (.iload 4, 2) := by decide +kernel
theorem dX4_readLaw_30 : decode cX4_readLaw 30 = .ok (.bipush 16, 2) := by decide +kernel
theorem dX4_readLaw_32 : decode cX4_readLaw 32 = .ok (.if_icmp .ge 37, 3) := by decide +kernel
theorem dX4_readLaw_35 : decode cX4_readLaw 35 = .ok (.iload_n 3, 1) := by decide +kernel
theorem dX4_readLaw_36 : decode cX4_readLaw 36 = .ok (.ifCond .eq 33, 3) := by decide +kernel
theorem dX4_readLaw_39 : decode cX4_readLaw 39 = .ok (.aload_n 0, 1) := by decide +kernel
theorem dX4_readLaw_40 : decode cX4_readLaw 40 = .ok (.getfield 9, 3) := by decide +kernel
theorem dX4_readLaw_43 : decode cX4_readLaw 43 = .ok (.invokevirtual 34, 3) := by decide +kernel
theorem dX4_readLaw_46 : decode cX4_readLaw 46 = .ok (.bipush 59, 2) := by decide +kernel
theorem dX4_readLaw_48 : decode cX4_readLaw 48 = .ok (.if_icmp .ne 21, 3) := by decide +kernel
theorem dX4_readLaw_51 : decode cX4_readLaw 51 = .ok (.aload_n 0, 1) := by decide +kernel
theorem dX4_readLaw_52 : decode cX4_readLaw 52 = .ok (.getfield 9, 3) := by decide +kernel
theorem dX4_readLaw_55 : decode cX4_readLaw 55 = .ok (.invokevirtual 38, 3) := by decide +kernel
theorem dX4_readLaw_58 : decode cX4_readLaw 58 = .ok (.aload_n 0, 1) := by decide +kernel
theorem dX4_readLaw_59 : decode cX4_readLaw 59 = .ok (.invokevirtual 30, 3) := by decide +kernel
theorem dX4_readLaw_62 : decode cX4_readLaw 62 = .ok (.istore_n 3, 1) := by decide +kernel
theorem dX4_readLaw_63 : decode cX4_readLaw 63 = .ok (.iinc 4 1, 3) := by decide +kernel
theorem dX4_readLaw_66 : decode cX4_readLaw 66 = .ok (.goto (-38), 3) := by decide +kernel
theorem dX4_readLaw_69 : decode cX4_readLaw 69 = .ok (.iload_n 3, 1) := by decide +kernel
theorem dX4_readLaw_70 : decode cX4_readLaw 70 = .ok (.ifCond .eq 12, 3) := by decide +kernel
theorem dX4_readLaw_73 : decode cX4_readLaw 73 = .ok (.aload_n 0, 1) := by decide +kernel
theorem dX4_readLaw_74 : decode cX4_readLaw 74 = .ok (.getfield 9, 3) := by decide +kernel
theorem dX4_readLaw_77 : decode cX4_readLaw 77 = .ok (.iconst (-1), 1) := by decide +kernel
theorem dX4_readLaw_78 : decode cX4_readLaw 78 = .ok (.invokevirtual 41, 3) := by decide +kernel
theorem dX4_readLaw_81 : decode cX4_readLaw 81 = .ok (.pop, 1) := by decide +kernel
theorem dX4_readLaw_82 : decode cX4_readLaw 82 = .ok (.aload_n 0, 1) := by decide +kernel
theorem dX4_readLaw_83 : decode cX4_readLaw 83 = .ok (.getfield 9, 3) := by decide +kernel
theorem dX4_readLaw_86 : decode cX4_readLaw 86 = .ok (.aload_n 0, 1) := by decide +kernel
theorem dX4_readLaw_87 : decode cX4_readLaw 87 = .ok (.getfield 15, 3) := by decide +kernel
theorem dX4_readLaw_90 : decode cX4_readLaw 90 = .ok (.invokevirtual 45, 3) := by decide +kernel
theorem dX4_readLaw_93 : decode cX4_readLaw 93 = .ok (.invokevirtual 48, 3) := by decide +kernel
theorem dX4_readLaw_96 : decode cX4_readLaw 96 = .ok (.ireturn, 1) := by decide +kernel
theorem dX4_readRule_0 : decode cX4_readRule 0 = .ok (.aload_n 0, 1) := by decide +kernel
theorem dX4_readRule_1 : decode cX4_readRule 1 = .ok (.getfield 9, 3) := by decide +kernel
theorem dX4_readRule_4 : decode cX4_readRule 4 = .ok (.invokevirtual 34, 3) := by decide +kernel
theorem dX4_readRule_7 : decode cX4_readRule 7 = .ok (.invokestatic 52, 3) := by decide +kernel
theorem dX4_readRule_10 : decode cX4_readRule 10 = .ok (.istore_n 1, 1) := by decide +kernel
theorem dX4_readRule_11 : decode cX4_readRule 11 = .ok (.iload_n 1, 1) := by decide +kernel
theorem dX4_readRule_12 : decode cX4_readRule 12 = .ok (.iconst (-1), 1) := by decide +kernel
theorem dX4_readRule_13 : decode cX4_readRule 13 = .ok (.if_icmp .ne 19, 3) := by decide +kernel
theorem dX4_readRule_16 : decode cX4_readRule 16 = .ok (.aload_n 0, 1) := by decide +kernel
theorem dX4_readRule_17 : decode cX4_readRule 17 = .ok (.getfield 9, 3) := by decide +kernel
theorem dX4_readRule_20 : decode cX4_readRule 20 = .ok (.iconst 1, 1) := by decide +kernel
theorem dX4_readRule_21 : decode cX4_readRule 21 = .ok (.aload_n 0, 1) := by decide +kernel
theorem dX4_readRule_22 : decode cX4_readRule 22 = .ok (.getfield 9, 3) := by decide +kernel
theorem dX4_readRule_25 : decode cX4_readRule 25 = .ok (.invokevirtual 55, 3) := by decide +kernel
theorem dX4_readRule_28 : decode cX4_readRule 28 = .ok (.invokevirtual 58, 3) := by decide +kernel
theorem dX4_readRule_31 : decode cX4_readRule 31 = .ok (.ireturn, 1) := by decide +kernel
theorem dX4_readRule_32 : decode cX4_readRule 32 = .ok (.aload_n 0, 1) := by decide +kernel
theorem dX4_readRule_33 : decode cX4_readRule 33 = .ok (.getfield 15, 3) := by decide +kernel
theorem dX4_readRule_36 : decode cX4_readRule 36 = .ok (.invokevirtual 45, 3) := by decide +kernel
theorem dX4_readRule_39 : decode cX4_readRule 39 = .ok (.bipush 16, 2) := by decide +kernel
theorem dX4_readRule_41 : decode cX4_readRule 41 = .ok (.if_icmp .lt 19, 3) := by decide +kernel
theorem dX4_readRule_44 : decode cX4_readRule 44 = .ok (.aload_n 0, 1) := by decide +kernel
theorem dX4_readRule_45 : decode cX4_readRule 45 = .ok (.getfield 9, 3) := by decide +kernel
theorem dX4_readRule_48 : decode cX4_readRule 48 = .ok (.iconst 4, 1) := by decide +kernel
theorem dX4_readRule_49 : decode cX4_readRule 49 = .ok (.aload_n 0, 1) := by decide +kernel
theorem dX4_readRule_50 : decode cX4_readRule 50 = .ok (.getfield 9, 3) := by decide +kernel
theorem dX4_readRule_53 : decode cX4_readRule 53 = .ok (.invokevirtual 55, 3) := by decide +kernel
theorem dX4_readRule_56 : decode cX4_readRule 56 = .ok (.invokevirtual 58, 3) := by decide +kernel
theorem dX4_readRule_59 : decode cX4_readRule 59 = .ok (.ireturn, 1) := by decide +kernel
theorem dX4_readRule_60 : decode cX4_readRule 60 = .ok (.aload_n 0, 1) := by decide +kernel
theorem dX4_readRule_61 : decode cX4_readRule 61 = .ok (.getfield 9, 3) := by decide +kernel
theorem dX4_readRule_64 : decode cX4_readRule 64 = .ok (.invokevirtual 38, 3) := by decide +kernel
theorem dX4_readRule_67 : decode cX4_readRule 67 = .ok (.aload_n 0, 1) := by decide +kernel
theorem dX4_readRule_68 : decode cX4_readRule 68 = .ok (.getfield 15, 3) := by decide +kernel
theorem dX4_readRule_71 : decode cX4_readRule 71 = .ok (.invokevirtual 62, 3) := by decide +kernel
theorem dX4_readRule_74 : decode cX4_readRule 74 = .ok (.istore_n 2, 1) := by decide +kernel
theorem dX4_readRule_75 : decode cX4_readRule 75 = .ok (.iload_n 1, 1) := by decide +kernel
theorem dX4_readRule_76 : decode cX4_readRule 76 = .ok (.iconst 4, 1) := by decide +kernel
theorem dX4_readRule_77 : decode cX4_readRule 77 = .ok (.if_icmp .eq 13, 3) := by decide +kernel
theorem dX4_readRule_80 : decode cX4_readRule 80 = .ok (.aload_n 0, 1) := by decide +kernel
theorem dX4_readRule_81 : decode cX4_readRule 81 = .ok (.iconst 0, 1) := by decide +kernel
theorem dX4_readRule_82 : decode cX4_readRule 82 = .ok (.invokevirtual 65, 3) := by decide +kernel
theorem dX4_readRule_85 : decode cX4_readRule 85 = .ok (.ifCond .ne 5, 3) := by decide +kernel
theorem dX4_readRule_88 : decode cX4_readRule 88 = .ok (.iconst 0, 1) := by decide +kernel
theorem dX4_readRule_89 : decode cX4_readRule 89 = .ok (.ireturn, 1) := by decide +kernel
theorem dX4_readRule_90 : decode cX4_readRule 90 = .ok (.aload_n 0, 1) := by decide +kernel
theorem dX4_readRule_91 : decode cX4_readRule 91 = .ok (.getfield 15, 3) := by decide +kernel
theorem dX4_readRule_94 : decode cX4_readRule 94 = .ok (.invokevirtual 62, 3) := by decide +kernel
theorem dX4_readRule_97 : decode cX4_readRule 97 = .ok (.istore_n 3, 1) := by decide +kernel
theorem dX4_readRule_98 : decode cX4_readRule 98 = .ok (.aload_n 0, 1) := by decide +kernel
theorem dX4_readRule_99 : decode cX4_readRule 99 = .ok (.getfield 9, 3) := by decide +kernel
theorem dX4_readRule_102 : decode cX4_readRule 102 = .ok (.bipush 40, 2) := by decide +kernel
theorem dX4_readRule_104 : decode cX4_readRule 104 = .ok (.invokevirtual 41, 3) := by decide +kernel
theorem dX4_readRule_107 : decode cX4_readRule 107 = .ok (.ifCond .eq 23, 3) := by decide +kernel
theorem dX4_readRule_110 : decode cX4_readRule 110 = .ok (.aload_n 0, 1) := by decide +kernel
theorem dX4_readRule_111 : decode cX4_readRule 111 = .ok (.iconst 1, 1) := by decide +kernel
theorem dX4_readRule_112 : decode cX4_readRule 112 = .ok (.invokevirtual 68, 3) := by decide +kernel
theorem dX4_readRule_115 : decode cX4_readRule 115 = .ok (.ifCond .eq 15, 3) := by decide +kernel
theorem dX4_readRule_118 : decode cX4_readRule 118 = .ok (.aload_n 0, 1) := by decide +kernel
theorem dX4_readRule_119 : decode cX4_readRule 119 = .ok (.getfield 9, 3) := by decide +kernel
theorem dX4_readRule_122 : decode cX4_readRule 122 = .ok (.bipush 41, 2) := by decide +kernel
theorem dX4_readRule_124 : decode cX4_readRule 124 = .ok (.invokevirtual 41, 3) := by decide +kernel
theorem dX4_readRule_127 : decode cX4_readRule 127 = .ok (.ifCond .ne 5, 3) := by decide +kernel
theorem dX4_readRule_130 : decode cX4_readRule 130 = .ok (.iconst 0, 1) := by decide +kernel
theorem dX4_readRule_131 : decode cX4_readRule 131 = .ok (.ireturn, 1) := by decide +kernel
theorem dX4_readRule_132 : decode cX4_readRule 132 = .ok (.aload_n 0, 1) := by decide +kernel
theorem dX4_readRule_133 : decode cX4_readRule 133 = .ok (.getfield 15, 3) := by decide +kernel
theorem dX4_readRule_136 : decode cX4_readRule 136 = .ok (.iload_n 1, 1) := by decide +kernel
theorem dX4_readRule_137 : decode cX4_readRule 137 = .ok (.iload_n 2, 1) := by decide +kernel
theorem dX4_readRule_138 : decode cX4_readRule 138 = .ok (.iload_n 3, 1) := by decide +kernel
theorem dX4_readRule_139 : decode cX4_readRule 139 = .ok (.invokevirtual 71, 3) := by decide +kernel
theorem dX4_readRule_142 : decode cX4_readRule 142 = .ok (.iconst 1, 1) := by decide +kernel
theorem dX4_readRule_143 : decode cX4_readRule 143 = .ok (.ireturn, 1) := by decide +kernel
theorem dX4_readChoice_0 : decode cX4_readChoice 0 = .ok (.aload_n 0, 1) := by decide +kernel
theorem dX4_readChoice_1 : decode cX4_readChoice 1 = .ok (.iload_n 1, 1) := by decide +kernel
theorem dX4_readChoice_2 : decode cX4_readChoice 2 = .ok (.invokevirtual 75, 3) := by decide +kernel
theorem dX4_readChoice_5 : decode cX4_readChoice 5 = .ok (.istore_n 2, 1) := by decide +kernel
theorem dX4_readChoice_6 : decode cX4_readChoice 6 = .ok (.iconst (-1), 1) := by decide +kernel
theorem dX4_readChoice_7 : decode cX4_readChoice 7 = .ok (.istore_n 3, 1) := by decide +kernel
theorem dX4_readChoice_8 : decode cX4_readChoice 8 = .ok (.iconst 0, 1) := by decide +kernel
theorem dX4_readChoice_9 : decode cX4_readChoice 9 = .ok (.istore 4, 2) := by decide +kernel
theorem dX4_readChoice_11 : decode cX4_readChoice 11 = .ok (.iload 4, 2) := by decide +kernel
theorem dX4_readChoice_13 : decode cX4_readChoice 13 = .ok (.sipush 240, 3) := by decide +kernel
theorem dX4_readChoice_16 : decode cX4_readChoice 16 = .ok (.if_icmp .ge 48, 3) := by decide +kernel
theorem dX4_readChoice_19 : decode cX4_readChoice 19 = .ok (.iload_n 2, 1) := by decide +kernel
theorem dX4_readChoice_20 : decode cX4_readChoice 20 = .ok (.ifCond .eq 44, 3) := by decide +kernel
theorem dX4_readChoice_23 : decode cX4_readChoice 23 = .ok (.aload_n 0, 1) := by decide +kernel
theorem dX4_readChoice_24 : decode cX4_readChoice 24 = .ok (.getfield 9, 3) := by decide +kernel
theorem dX4_readChoice_27 : decode cX4_readChoice 27 = .ok (.invokevirtual 34, 3) := by decide +kernel
theorem dX4_readChoice_30 : decode cX4_readChoice 30 = .ok (.bipush 124, 2) := by decide +kernel
theorem dX4_readChoice_32 : decode cX4_readChoice 32 = .ok (.if_icmp .ne 32, 3) := by decide +kernel
theorem dX4_readChoice_35 : decode cX4_readChoice 35 = .ok (.aload_n 0, 1) := by decide +kernel
theorem dX4_readChoice_36 : decode cX4_readChoice 36 = .ok (.getfield 9, 3) := by decide +kernel
theorem dX4_readChoice_39 : decode cX4_readChoice 39 = .ok (.invokevirtual 38, 3) := by decide +kernel
theorem dX4_readChoice_42 : decode cX4_readChoice 42 = .ok (.aload_n 0, 1) := by decide +kernel
theorem dX4_readChoice_43 : decode cX4_readChoice 43 = .ok (.getfield 15, 3) := by decide +kernel
theorem dX4_readChoice_46 : decode cX4_readChoice 46 = .ok (.iconst 3, 1) := by decide +kernel
theorem dX4_readChoice_47 : decode cX4_readChoice 47 = .ok (.iload_n 3, 1) := by decide +kernel
theorem dX4_readChoice_48 : decode cX4_readChoice 48 = .ok (.invokevirtual 78, 3) := by decide +kernel
theorem dX4_readChoice_51 : decode cX4_readChoice 51 = .ok (.istore_n 3, 1) := by decide +kernel
theorem dX4_readChoice_52 : decode cX4_readChoice 52 = .ok (.aload_n 0, 1) := by decide +kernel
theorem dX4_readChoice_53 : decode cX4_readChoice 53 = .ok (.iload_n 1, 1) := by decide +kernel
theorem dX4_readChoice_54 : decode cX4_readChoice 54 = .ok (.invokevirtual 75, 3) := by decide +kernel
theorem dX4_readChoice_57 : decode cX4_readChoice 57 = .ok (.istore_n 2, 1) := by decide +kernel
theorem dX4_readChoice_58 : decode cX4_readChoice 58 = .ok (.iinc 4 1, 3) := by decide +kernel
theorem dX4_readChoice_61 : decode cX4_readChoice 61 = .ok (.goto (-50), 3) := by decide +kernel
theorem dX4_readChoice_64 : decode cX4_readChoice 64 = .ok (.aload_n 0, 1) := by decide +kernel
theorem dX4_readChoice_65 : decode cX4_readChoice 65 = .ok (.getfield 15, 3) := by decide +kernel
theorem dX4_readChoice_68 : decode cX4_readChoice 68 = .ok (.iload_n 3, 1) := by decide +kernel
theorem dX4_readChoice_69 : decode cX4_readChoice 69 = .ok (.invokevirtual 82, 3) := by decide +kernel
theorem dX4_readChoice_72 : decode cX4_readChoice 72 = .ok (.iload_n 2, 1) := by decide +kernel
theorem dX4_readChoice_73 : decode cX4_readChoice 73 = .ok (.ireturn, 1) := by decide +kernel
theorem dX4_readPart_0 : decode cX4_readPart 0 = .ok (.aload_n 0, 1) := by decide +kernel
theorem dX4_readPart_1 : decode cX4_readPart 1 = .ok (.iload_n 1, 1) := by decide +kernel
theorem dX4_readPart_2 : decode cX4_readPart 2 = .ok (.invokevirtual 85, 3) := by decide +kernel
theorem dX4_readPart_5 : decode cX4_readPart 5 = .ok (.istore_n 2, 1) := by decide +kernel
theorem dX4_readPart_6 : decode cX4_readPart 6 = .ok (.iconst (-1), 1) := by decide +kernel
theorem dX4_readPart_7 : decode cX4_readPart 7 = .ok (.istore_n 3, 1) := by decide +kernel
theorem dX4_readPart_8 : decode cX4_readPart 8 = .ok (.iconst 0, 1) := by decide +kernel
theorem dX4_readPart_9 : decode cX4_readPart 9 = .ok (.istore 4, 2) := by decide +kernel
theorem dX4_readPart_11 : decode cX4_readPart 11 = .ok (.iload 4, 2) := by decide +kernel
theorem dX4_readPart_13 : decode cX4_readPart 13 = .ok (.sipush 240, 3) := by decide +kernel
theorem dX4_readPart_16 : decode cX4_readPart 16 = .ok (.if_icmp .ge 48, 3) := by decide +kernel
theorem dX4_readPart_19 : decode cX4_readPart 19 = .ok (.iload_n 2, 1) := by decide +kernel
theorem dX4_readPart_20 : decode cX4_readPart 20 = .ok (.ifCond .eq 44, 3) := by decide +kernel
theorem dX4_readPart_23 : decode cX4_readPart 23 = .ok (.aload_n 0, 1) := by decide +kernel
theorem dX4_readPart_24 : decode cX4_readPart 24 = .ok (.getfield 9, 3) := by decide +kernel
theorem dX4_readPart_27 : decode cX4_readPart 27 = .ok (.invokevirtual 34, 3) := by decide +kernel
theorem dX4_readPart_30 : decode cX4_readPart 30 = .ok (.bipush 38, 2) := by decide +kernel
theorem dX4_readPart_32 : decode cX4_readPart 32 = .ok (.if_icmp .ne 32, 3) := by decide +kernel
theorem dX4_readPart_35 : decode cX4_readPart 35 = .ok (.aload_n 0, 1) := by decide +kernel
theorem dX4_readPart_36 : decode cX4_readPart 36 = .ok (.getfield 9, 3) := by decide +kernel
theorem dX4_readPart_39 : decode cX4_readPart 39 = .ok (.invokevirtual 38, 3) := by decide +kernel
theorem dX4_readPart_42 : decode cX4_readPart 42 = .ok (.aload_n 0, 1) := by decide +kernel
theorem dX4_readPart_43 : decode cX4_readPart 43 = .ok (.getfield 15, 3) := by decide +kernel
theorem dX4_readPart_46 : decode cX4_readPart 46 = .ok (.iconst 4, 1) := by decide +kernel
theorem dX4_readPart_47 : decode cX4_readPart 47 = .ok (.iload_n 3, 1) := by decide +kernel
theorem dX4_readPart_48 : decode cX4_readPart 48 = .ok (.invokevirtual 78, 3) := by decide +kernel
theorem dX4_readPart_51 : decode cX4_readPart 51 = .ok (.istore_n 3, 1) := by decide +kernel
theorem dX4_readPart_52 : decode cX4_readPart 52 = .ok (.aload_n 0, 1) := by decide +kernel
theorem dX4_readPart_53 : decode cX4_readPart 53 = .ok (.iload_n 1, 1) := by decide +kernel
theorem dX4_readPart_54 : decode cX4_readPart 54 = .ok (.invokevirtual 85, 3) := by decide +kernel
theorem dX4_readPart_57 : decode cX4_readPart 57 = .ok (.istore_n 2, 1) := by decide +kernel
theorem dX4_readPart_58 : decode cX4_readPart 58 = .ok (.iinc 4 1, 3) := by decide +kernel
theorem dX4_readPart_61 : decode cX4_readPart 61 = .ok (.goto (-50), 3) := by decide +kernel
theorem dX4_readPart_64 : decode cX4_readPart 64 = .ok (.aload_n 0, 1) := by decide +kernel
theorem dX4_readPart_65 : decode cX4_readPart 65 = .ok (.getfield 15, 3) := by decide +kernel
theorem dX4_readPart_68 : decode cX4_readPart 68 = .ok (.iload_n 3, 1) := by decide +kernel
theorem dX4_readPart_69 : decode cX4_readPart 69 = .ok (.invokevirtual 82, 3) := by decide +kernel
theorem dX4_readPart_72 : decode cX4_readPart 72 = .ok (.iload_n 2, 1) := by decide +kernel
theorem dX4_readPart_73 : decode cX4_readPart 73 = .ok (.ireturn, 1) := by decide +kernel
theorem dX4_readTest_0 : decode cX4_readTest 0 = .ok (.aload_n 0, 1) := by decide +kernel
theorem dX4_readTest_1 : decode cX4_readTest 1 = .ok (.getfield 9, 3) := by decide +kernel
theorem dX4_readTest_4 : decode cX4_readTest 4 = .ok (.invokevirtual 34, 3) := by decide +kernel
theorem dX4_readTest_7 : decode cX4_readTest 7 = .ok (.istore_n 2, 1) := by decide +kernel
theorem dX4_readTest_8 : decode cX4_readTest 8 = .ok (.iload_n 2, 1) := by decide +kernel
theorem dX4_readTest_9 : decode cX4_readTest 9 = .ok (.bipush 33, 2) := by decide +kernel
theorem dX4_readTest_11 : decode cX4_readTest 11 = .ok (.if_icmp .eq 15, 3) := by decide +kernel
theorem dX4_readTest_14 : decode cX4_readTest 14 = .ok (.iload_n 2, 1) := by decide +kernel
theorem dX4_readTest_15 : decode cX4_readTest 15 = .ok (.bipush 40, 2) := by decide +kernel
theorem dX4_readTest_17 : decode cX4_readTest 17 = .ok (.if_icmp .eq 9, 3) := by decide +kernel
theorem dX4_readTest_20 : decode cX4_readTest 20 = .ok (.aload_n 0, 1) := by decide +kernel
theorem dX4_readTest_21 : decode cX4_readTest 21 = .ok (.iload_n 1, 1) := by decide +kernel
theorem dX4_readTest_22 : decode cX4_readTest 22 = .ok (.invokevirtual 88, 3) := by decide +kernel
theorem dX4_readTest_25 : decode cX4_readTest 25 = .ok (.ireturn, 1) := by decide +kernel
theorem dX4_readTest_26 : decode cX4_readTest 26 = .ok (.iload_n 1, 1) := by decide +kernel
theorem dX4_readTest_27 : decode cX4_readTest 27 = .ok (.bipush 6, 2) := by decide +kernel
theorem dX4_readTest_29 : decode cX4_readTest 29 = .ok (.if_icmp .lt 19, 3) := by decide +kernel
theorem dX4_readTest_32 : decode cX4_readTest 32 = .ok (.aload_n 0, 1) := by decide +kernel
theorem dX4_readTest_33 : decode cX4_readTest 33 = .ok (.getfield 9, 3) := by decide +kernel
theorem dX4_readTest_36 : decode cX4_readTest 36 = .ok (.iconst 5, 1) := by decide +kernel
theorem dX4_readTest_37 : decode cX4_readTest 37 = .ok (.aload_n 0, 1) := by decide +kernel
theorem dX4_readTest_38 : decode cX4_readTest 38 = .ok (.getfield 9, 3) := by decide +kernel
theorem dX4_readTest_41 : decode cX4_readTest 41 = .ok (.invokevirtual 55, 3) := by decide +kernel
theorem dX4_readTest_44 : decode cX4_readTest 44 = .ok (.invokevirtual 58, 3) := by decide +kernel
theorem dX4_readTest_47 : decode cX4_readTest 47 = .ok (.ireturn, 1) := by decide +kernel
theorem dX4_readTest_48 : decode cX4_readTest 48 = .ok (.aload_n 0, 1) := by decide +kernel
theorem dX4_readTest_49 : decode cX4_readTest 49 = .ok (.getfield 9, 3) := by decide +kernel
theorem dX4_readTest_52 : decode cX4_readTest 52 = .ok (.invokevirtual 38, 3) := by decide +kernel
theorem dX4_readTest_55 : decode cX4_readTest 55 = .ok (.iload_n 2, 1) := by decide +kernel
theorem dX4_readTest_56 : decode cX4_readTest 56 = .ok (.bipush 40, 2) := by decide +kernel
theorem dX4_readTest_58 : decode cX4_readTest 58 = .ok (.if_icmp .ne 31, 3) := by decide +kernel
theorem dX4_readTest_61 : decode cX4_readTest 61 = .ok (.aload_n 0, 1) := by decide +kernel
theorem dX4_readTest_62 : decode cX4_readTest 62 = .ok (.iload_n 1, 1) := by decide +kernel
theorem dX4_readTest_63 : decode cX4_readTest 63 = .ok (.iconst 1, 1) := by decide +kernel
theorem dX4_readTest_64 : decode cX4_readTest 64 = .ok (.iadd, 1) := by decide +kernel
theorem dX4_readTest_65 : decode cX4_readTest 65 = .ok (.invokevirtual 68, 3) := by decide +kernel
theorem dX4_readTest_68 : decode cX4_readTest 68 = .ok (.ifCond .eq 19, 3) := by decide +kernel
theorem dX4_readTest_71 : decode cX4_readTest 71 = .ok (.aload_n 0, 1) := by decide +kernel
theorem dX4_readTest_72 : decode cX4_readTest 72 = .ok (.getfield 9, 3) := by decide +kernel
theorem dX4_readTest_75 : decode cX4_readTest 75 = .ok (.bipush 41, 2) := by decide +kernel
theorem dX4_readTest_77 : decode cX4_readTest 77 = .ok (.invokevirtual 41, 3) := by decide +kernel
theorem dX4_readTest_80 : decode cX4_readTest 80 = .ok (.ifCond .eq 7, 3) := by decide +kernel
theorem dX4_readTest_83 : decode cX4_readTest 83 = .ok (.iconst 1, 1) := by decide +kernel
theorem dX4_readTest_84 : decode cX4_readTest 84 = .ok (.goto 4, 3) := by decide +kernel
theorem dX4_readTest_87 : decode cX4_readTest 87 = .ok (.iconst 0, 1) := by decide +kernel
theorem dX4_readTest_88 : decode cX4_readTest 88 = .ok (.ireturn, 1) := by decide +kernel
theorem dX4_readTest_89 : decode cX4_readTest 89 = .ok (.aload_n 0, 1) := by decide +kernel
theorem dX4_readTest_90 : decode cX4_readTest 90 = .ok (.iload_n 1, 1) := by decide +kernel
theorem dX4_readTest_91 : decode cX4_readTest 91 = .ok (.iconst 1, 1) := by decide +kernel
theorem dX4_readTest_92 : decode cX4_readTest 92 = .ok (.iadd, 1) := by decide +kernel
theorem dX4_readTest_93 : decode cX4_readTest 93 = .ok (.invokevirtual 85, 3) := by decide +kernel
theorem dX4_readTest_96 : decode cX4_readTest 96 = .ok (.ifCond .ne 5, 3) := by decide +kernel
theorem dX4_readTest_99 : decode cX4_readTest 99 = .ok (.iconst 0, 1) := by decide +kernel
theorem dX4_readTest_100 : decode cX4_readTest 100 = .ok (.ireturn, 1) := by decide +kernel
theorem dX4_readTest_101 : decode cX4_readTest 101 = .ok (.aload_n 0, 1) := by decide +kernel
theorem dX4_readTest_102 : decode cX4_readTest 102 = .ok (.getfield 15, 3) := by decide +kernel
theorem dX4_readTest_105 : decode cX4_readTest 105 = .ok (.iconst 2, 1) := by decide +kernel
theorem dX4_readTest_106 : decode cX4_readTest 106 = .ok (.iconst 0, 1) := by decide +kernel
theorem dX4_readTest_107 : decode cX4_readTest 107 = .ok (.invokevirtual 91, 3) := by decide +kernel
theorem dX4_readTest_110 : decode cX4_readTest 110 = .ok (.iconst 1, 1) := by decide +kernel
theorem dX4_readTest_111 : decode cX4_readTest 111 = .ok (.ireturn, 1) := by decide +kernel
theorem dX4_readComparison_0 : decode cX4_readComparison 0 = .ok (.aload_n 0, 1) := by decide +kernel
theorem dX4_readComparison_1 : decode cX4_readComparison 1 = .ok (.iload_n 1, 1) := by decide +kernel
theorem dX4_readComparison_2 : decode cX4_readComparison 2 = .ok (.invokevirtual 65, 3) := by decide +kernel
theorem dX4_readComparison_5 : decode cX4_readComparison 5 = .ok (.ifCond .ne 5, 3) := by decide +kernel
theorem dX4_readComparison_8 : decode cX4_readComparison 8 = .ok (.iconst 0, 1) := by decide +kernel
theorem dX4_readComparison_9 : decode cX4_readComparison 9 = .ok (.ireturn, 1) := by decide +kernel
theorem dX4_readComparison_10 : decode cX4_readComparison 10 = .ok (.aload_n 0, 1) := by decide +kernel
theorem dX4_readComparison_11 : decode cX4_readComparison 11 = .ok (.getfield 9, 3) := by decide +kernel
theorem dX4_readComparison_14 : decode cX4_readComparison 14 = .ok (.invokevirtual 34, 3) := by decide +kernel
theorem dX4_readComparison_17 : decode cX4_readComparison 17 = .ok (.istore_n 2, 1) := by decide +kernel
theorem dX4_readComparison_18 : decode cX4_readComparison 18 = .ok (.iload_n 2, 1) := by decide +kernel
theorem dX4_readComparison_19 : decode cX4_readComparison 19 = .ok (.bipush 60, 2) := by decide +kernel
theorem dX4_readComparison_21 : decode cX4_readComparison 21 = .ok (.if_icmp .eq 31, 3) := by decide +kernel
theorem dX4_readComparison_24 : decode cX4_readComparison 24 = .ok (.iload_n 2, 1) := by decide +kernel
theorem dX4_readComparison_25 : decode cX4_readComparison 25 = .ok (.bipush 62, 2) := by decide +kernel
theorem dX4_readComparison_27 : decode cX4_readComparison 27 = .ok (.if_icmp .eq 25, 3) := by decide +kernel
theorem dX4_readComparison_30 : decode cX4_readComparison 30 = .ok (.iload_n 2, 1) := by decide +kernel
theorem dX4_readComparison_31 : decode cX4_readComparison 31 = .ok (.bipush 61, 2) := by decide +kernel
theorem dX4_readComparison_33 : decode cX4_readComparison 33 = .ok (.if_icmp .eq 19, 3) := by decide +kernel
theorem dX4_readComparison_36 : decode cX4_readComparison 36 = .ok (.aload_n 0, 1) := by decide +kernel
theorem dX4_readComparison_37 : decode cX4_readComparison 37 = .ok (.getfield 9, 3) := by decide +kernel
theorem dX4_readComparison_40 : decode cX4_readComparison 40 = .ok (.iconst 1, 1) := by decide +kernel
theorem dX4_readComparison_41 : decode cX4_readComparison 41 = .ok (.aload_n 0, 1) := by decide +kernel
theorem dX4_readComparison_42 : decode cX4_readComparison 42 = .ok (.getfield 9, 3) := by decide +kernel
theorem dX4_readComparison_45 : decode cX4_readComparison 45 = .ok (.invokevirtual 55, 3) := by decide +kernel
theorem dX4_readComparison_48 : decode cX4_readComparison 48 = .ok (.invokevirtual 58, 3) := by decide +kernel
theorem dX4_readComparison_51 : decode cX4_readComparison 51 = .ok (.ireturn, 1) := by decide +kernel
theorem dX4_readComparison_52 : decode cX4_readComparison 52 = .ok (.aload_n 0, 1) := by decide +kernel
theorem dX4_readComparison_53 : decode cX4_readComparison 53 = .ok (.getfield 9, 3) := by decide +kernel
theorem dX4_readComparison_56 : decode cX4_readComparison 56 = .ok (.invokevirtual 38, 3) := by decide +kernel
theorem dX4_readComparison_59 : decode cX4_readComparison 59 = .ok (.aload_n 0, 1) := by decide +kernel
theorem dX4_readComparison_60 : decode cX4_readComparison 60 = .ok (.iload_n 1, 1) := by decide +kernel
theorem dX4_readComparison_61 : decode cX4_readComparison 61 = .ok (.invokevirtual 65, 3) := by decide +kernel
theorem dX4_readComparison_64 : decode cX4_readComparison 64 = .ok (.ifCond .ne 5, 3) := by decide +kernel
theorem dX4_readComparison_67 : decode cX4_readComparison 67 = .ok (.iconst 0, 1) := by decide +kernel
theorem dX4_readComparison_68 : decode cX4_readComparison 68 = .ok (.ireturn, 1) := by decide +kernel
theorem dX4_readComparison_69 : decode cX4_readComparison 69 = .ok (.aload_n 0, 1) := by decide +kernel
theorem dX4_readComparison_70 : decode cX4_readComparison 70 = .ok (.getfield 15, 3) := by decide +kernel
theorem dX4_readComparison_73 : decode cX4_readComparison 73 = .ok (.iload_n 2, 1) := by decide +kernel
theorem dX4_readComparison_74 : decode cX4_readComparison 74 = .ok (.iconst 0, 1) := by decide +kernel
theorem dX4_readComparison_75 : decode cX4_readComparison 75 = .ok (.invokevirtual 91, 3) := by decide +kernel
theorem dX4_readComparison_78 : decode cX4_readComparison 78 = .ok (.iconst 1, 1) := by decide +kernel
theorem dX4_readComparison_79 : decode cX4_readComparison 79 = .ok (.ireturn, 1) := by decide +kernel
theorem dX4_readSum_0 : decode cX4_readSum 0 = .ok (.aload_n 0, 1) := by decide +kernel
theorem dX4_readSum_1 : decode cX4_readSum 1 = .ok (.iload_n 1, 1) := by decide +kernel
theorem dX4_readSum_2 : decode cX4_readSum 2 = .ok (.invokevirtual 95, 3) := by decide +kernel
theorem dX4_readSum_5 : decode cX4_readSum 5 = .ok (.istore_n 2, 1) := by decide +kernel
theorem dX4_readSum_6 : decode cX4_readSum 6 = .ok (.aload_n 0, 1) := by decide +kernel
theorem dX4_readSum_7 : decode cX4_readSum 7 = .ok (.getfield 9, 3) := by decide +kernel
theorem dX4_readSum_10 : decode cX4_readSum 10 = .ok (.invokevirtual 34, 3) := by decide +kernel
theorem dX4_readSum_13 : decode cX4_readSum 13 = .ok (.istore_n 3, 1) := by decide +kernel
theorem dX4_readSum_14 : decode cX4_readSum 14 = .ok (.iconst 0, 1) := by decide +kernel
theorem dX4_readSum_15 : decode cX4_readSum 15 = .ok (.istore 4, 2) := by decide +kernel
theorem dX4_readSum_17 : decode cX4_readSum 17 = .ok (.iload 4, 2) := by decide +kernel
theorem dX4_readSum_19 : decode cX4_readSum 19 = .ok (.sipush 240, 3) := by decide +kernel
theorem dX4_readSum_22 : decode cX4_readSum 22 = .ok (.if_icmp .ge 55, 3) := by decide +kernel
theorem dX4_readSum_25 : decode cX4_readSum 25 = .ok (.iload_n 2, 1) := by decide +kernel
theorem dX4_readSum_26 : decode cX4_readSum 26 = .ok (.ifCond .eq 51, 3) := by decide +kernel
theorem dX4_readSum_29 : decode cX4_readSum 29 = .ok (.iload_n 3, 1) := by decide +kernel
theorem dX4_readSum_30 : decode cX4_readSum 30 = .ok (.bipush 43, 2) := by decide +kernel
theorem dX4_readSum_32 : decode cX4_readSum 32 = .ok (.if_icmp .eq 9, 3) := by decide +kernel
theorem dX4_readSum_35 : decode cX4_readSum 35 = .ok (.iload_n 3, 1) := by decide +kernel
theorem dX4_readSum_36 : decode cX4_readSum 36 = .ok (.bipush 45, 2) := by decide +kernel
theorem dX4_readSum_38 : decode cX4_readSum 38 = .ok (.if_icmp .ne 39, 3) := by decide +kernel
theorem dX4_readSum_41 : decode cX4_readSum 41 = .ok (.aload_n 0, 1) := by decide +kernel
theorem dX4_readSum_42 : decode cX4_readSum 42 = .ok (.getfield 9, 3) := by decide +kernel
theorem dX4_readSum_45 : decode cX4_readSum 45 = .ok (.invokevirtual 38, 3) := by decide +kernel
theorem dX4_readSum_48 : decode cX4_readSum 48 = .ok (.aload_n 0, 1) := by decide +kernel
theorem dX4_readSum_49 : decode cX4_readSum 49 = .ok (.iload_n 1, 1) := by decide +kernel
theorem dX4_readSum_50 : decode cX4_readSum 50 = .ok (.invokevirtual 95, 3) := by decide +kernel
theorem dX4_readSum_53 : decode cX4_readSum 53 = .ok (.istore_n 2, 1) := by decide +kernel
theorem dX4_readSum_54 : decode cX4_readSum 54 = .ok (.aload_n 0, 1) := by decide +kernel
theorem dX4_readSum_55 : decode cX4_readSum 55 = .ok (.getfield 15, 3) := by decide +kernel
theorem dX4_readSum_58 : decode cX4_readSum 58 = .ok (.iload_n 3, 1) := by decide +kernel
theorem dX4_readSum_59 : decode cX4_readSum 59 = .ok (.iconst 0, 1) := by decide +kernel
theorem dX4_readSum_60 : decode cX4_readSum 60 = .ok (.invokevirtual 91, 3) := by decide +kernel
theorem dX4_readSum_63 : decode cX4_readSum 63 = .ok (.aload_n 0, 1) := by decide +kernel
theorem dX4_readSum_64 : decode cX4_readSum 64 = .ok (.getfield 9, 3) := by decide +kernel
theorem dX4_readSum_67 : decode cX4_readSum 67 = .ok (.invokevirtual 34, 3) := by decide +kernel
theorem dX4_readSum_70 : decode cX4_readSum 70 = .ok (.istore_n 3, 1) := by decide +kernel
theorem dX4_readSum_71 : decode cX4_readSum 71 = .ok (.iinc 4 1, 3) := by decide +kernel
theorem dX4_readSum_74 : decode cX4_readSum 74 = .ok (.goto (-57), 3) := by decide +kernel
theorem dX4_readSum_77 : decode cX4_readSum 77 = .ok (.iload_n 2, 1) := by decide +kernel
theorem dX4_readSum_78 : decode cX4_readSum 78 = .ok (.ireturn, 1) := by decide +kernel
theorem dX4_readTerm_0 : decode cX4_readTerm 0 = .ok (.aload_n 0, 1) := by decide +kernel
theorem dX4_readTerm_1 : decode cX4_readTerm 1 = .ok (.iload_n 1, 1) := by decide +kernel
theorem dX4_readTerm_2 : decode cX4_readTerm 2 = .ok (.invokevirtual 98, 3) := by decide +kernel
theorem dX4_readTerm_5 : decode cX4_readTerm 5 = .ok (.istore_n 2, 1) := by decide +kernel
theorem dX4_readTerm_6 : decode cX4_readTerm 6 = .ok (.aload_n 0, 1) := by decide +kernel
theorem dX4_readTerm_7 : decode cX4_readTerm 7 = .ok (.getfield 9, 3) := by decide +kernel
theorem dX4_readTerm_10 : decode cX4_readTerm 10 = .ok (.invokevirtual 34, 3) := by decide +kernel
theorem dX4_readTerm_13 : decode cX4_readTerm 13 = .ok (.istore_n 3, 1) := by decide +kernel
theorem dX4_readTerm_14 : decode cX4_readTerm 14 = .ok (.iconst 0, 1) := by decide +kernel
theorem dX4_readTerm_15 : decode cX4_readTerm 15 = .ok (.istore 4, 2) := by decide +kernel
theorem dX4_readTerm_17 : decode cX4_readTerm 17 = .ok (.iload 4, 2) := by decide +kernel
theorem dX4_readTerm_19 : decode cX4_readTerm 19 = .ok (.sipush 240, 3) := by decide +kernel
theorem dX4_readTerm_22 : decode cX4_readTerm 22 = .ok (.if_icmp .ge 61, 3) := by decide +kernel
theorem dX4_readTerm_25 : decode cX4_readTerm 25 = .ok (.iload_n 2, 1) := by decide +kernel
theorem dX4_readTerm_26 : decode cX4_readTerm 26 = .ok (.ifCond .eq 57, 3) := by decide +kernel
theorem dX4_readTerm_29 : decode cX4_readTerm 29 = .ok (.iload_n 3, 1) := by decide +kernel
theorem dX4_readTerm_30 : decode cX4_readTerm 30 = .ok (.bipush 42, 2) := by decide +kernel
theorem dX4_readTerm_32 : decode cX4_readTerm 32 = .ok (.if_icmp .eq 15, 3) := by decide +kernel
theorem dX4_readTerm_35 : decode cX4_readTerm 35 = .ok (.iload_n 3, 1) := by decide +kernel
theorem dX4_readTerm_36 : decode cX4_readTerm 36 = .ok (.bipush 47, 2) := by decide +kernel
theorem dX4_readTerm_38 : decode cX4_readTerm 38 = .ok (.if_icmp .eq 9, 3) := by decide +kernel
theorem dX4_readTerm_41 : decode cX4_readTerm 41 = .ok (.iload_n 3, 1) := by decide +kernel
theorem dX4_readTerm_42 : decode cX4_readTerm 42 = .ok (.bipush 37, 2) := by decide +kernel
theorem dX4_readTerm_44 : decode cX4_readTerm 44 = .ok (.if_icmp .ne 39, 3) := by decide +kernel
theorem dX4_readTerm_47 : decode cX4_readTerm 47 = .ok (.aload_n 0, 1) := by decide +kernel
theorem dX4_readTerm_48 : decode cX4_readTerm 48 = .ok (.getfield 9, 3) := by decide +kernel
theorem dX4_readTerm_51 : decode cX4_readTerm 51 = .ok (.invokevirtual 38, 3) := by decide +kernel
theorem dX4_readTerm_54 : decode cX4_readTerm 54 = .ok (.aload_n 0, 1) := by decide +kernel
theorem dX4_readTerm_55 : decode cX4_readTerm 55 = .ok (.iload_n 1, 1) := by decide +kernel
theorem dX4_readTerm_56 : decode cX4_readTerm 56 = .ok (.invokevirtual 98, 3) := by decide +kernel
theorem dX4_readTerm_59 : decode cX4_readTerm 59 = .ok (.istore_n 2, 1) := by decide +kernel
theorem dX4_readTerm_60 : decode cX4_readTerm 60 = .ok (.aload_n 0, 1) := by decide +kernel
theorem dX4_readTerm_61 : decode cX4_readTerm 61 = .ok (.getfield 15, 3) := by decide +kernel
theorem dX4_readTerm_64 : decode cX4_readTerm 64 = .ok (.iload_n 3, 1) := by decide +kernel
theorem dX4_readTerm_65 : decode cX4_readTerm 65 = .ok (.iconst 0, 1) := by decide +kernel
theorem dX4_readTerm_66 : decode cX4_readTerm 66 = .ok (.invokevirtual 91, 3) := by decide +kernel
theorem dX4_readTerm_69 : decode cX4_readTerm 69 = .ok (.aload_n 0, 1) := by decide +kernel
theorem dX4_readTerm_70 : decode cX4_readTerm 70 = .ok (.getfield 9, 3) := by decide +kernel
theorem dX4_readTerm_73 : decode cX4_readTerm 73 = .ok (.invokevirtual 34, 3) := by decide +kernel
theorem dX4_readTerm_76 : decode cX4_readTerm 76 = .ok (.istore_n 3, 1) := by decide +kernel
theorem dX4_readTerm_77 : decode cX4_readTerm 77 = .ok (.iinc 4 1, 3) := by decide +kernel
theorem dX4_readTerm_80 : decode cX4_readTerm 80 = .ok (.goto (-63), 3) := by decide +kernel
theorem dX4_readTerm_83 : decode cX4_readTerm 83 = .ok (.iload_n 2, 1) := by decide +kernel
theorem dX4_readTerm_84 : decode cX4_readTerm 84 = .ok (.ireturn, 1) := by decide +kernel
theorem dX4_readFactor_0 : decode cX4_readFactor 0 = .ok (.aload_n 0, 1) := by decide +kernel
theorem dX4_readFactor_1 : decode cX4_readFactor 1 = .ok (.getfield 9, 3) := by decide +kernel
theorem dX4_readFactor_4 : decode cX4_readFactor 4 = .ok (.invokevirtual 34, 3) := by decide +kernel
theorem dX4_readFactor_7 : decode cX4_readFactor 7 = .ok (.istore_n 2, 1) := by decide +kernel
theorem dX4_readFactor_8 : decode cX4_readFactor 8 = .ok (.iload_n 2, 1) := by decide +kernel
theorem dX4_readFactor_9 : decode cX4_readFactor 9 = .ok (.bipush 91, 2) := by decide +kernel
theorem dX4_readFactor_11 : decode cX4_readFactor 11 = .ok (.if_icmp .ne 60, 3) := by decide +kernel
theorem dX4_readFactor_14 : decode cX4_readFactor 14 = .ok (.iload_n 1, 1) := by decide +kernel
theorem dX4_readFactor_15 : decode cX4_readFactor 15 = .ok (.bipush 6, 2) := by decide +kernel
theorem dX4_readFactor_17 : decode cX4_readFactor 17 = .ok (.if_icmp .lt 19, 3) := by decide +kernel
theorem dX4_readFactor_20 : decode cX4_readFactor 20 = .ok (.aload_n 0, 1) := by decide +kernel
theorem dX4_readFactor_21 : decode cX4_readFactor 21 = .ok (.getfield 9, 3) := by decide +kernel
theorem dX4_readFactor_24 : decode cX4_readFactor 24 = .ok (.iconst 5, 1) := by decide +kernel
theorem dX4_readFactor_25 : decode cX4_readFactor 25 = .ok (.aload_n 0, 1) := by decide +kernel
theorem dX4_readFactor_26 : decode cX4_readFactor 26 = .ok (.getfield 9, 3) := by decide +kernel
theorem dX4_readFactor_29 : decode cX4_readFactor 29 = .ok (.invokevirtual 55, 3) := by decide +kernel
theorem dX4_readFactor_32 : decode cX4_readFactor 32 = .ok (.invokevirtual 58, 3) := by decide +kernel
theorem dX4_readFactor_35 : decode cX4_readFactor 35 = .ok (.ireturn, 1) := by decide +kernel
theorem dX4_readFactor_36 : decode cX4_readFactor 36 = .ok (.aload_n 0, 1) := by decide +kernel
theorem dX4_readFactor_37 : decode cX4_readFactor 37 = .ok (.getfield 9, 3) := by decide +kernel
theorem dX4_readFactor_40 : decode cX4_readFactor 40 = .ok (.invokevirtual 38, 3) := by decide +kernel
theorem dX4_readFactor_43 : decode cX4_readFactor 43 = .ok (.aload_n 0, 1) := by decide +kernel
theorem dX4_readFactor_44 : decode cX4_readFactor 44 = .ok (.iload_n 1, 1) := by decide +kernel
theorem dX4_readFactor_45 : decode cX4_readFactor 45 = .ok (.iconst 1, 1) := by decide +kernel
theorem dX4_readFactor_46 : decode cX4_readFactor 46 = .ok (.iadd, 1) := by decide +kernel
theorem dX4_readFactor_47 : decode cX4_readFactor 47 = .ok (.invokevirtual 65, 3) := by decide +kernel
theorem dX4_readFactor_50 : decode cX4_readFactor 50 = .ok (.ifCond .eq 19, 3) := by decide +kernel
theorem dX4_readFactor_53 : decode cX4_readFactor 53 = .ok (.aload_n 0, 1) := by decide +kernel
theorem dX4_readFactor_54 : decode cX4_readFactor 54 = .ok (.getfield 9, 3) := by decide +kernel
theorem dX4_readFactor_57 : decode cX4_readFactor 57 = .ok (.bipush 93, 2) := by decide +kernel
theorem dX4_readFactor_59 : decode cX4_readFactor 59 = .ok (.invokevirtual 41, 3) := by decide +kernel
theorem dX4_readFactor_62 : decode cX4_readFactor 62 = .ok (.ifCond .eq 7, 3) := by decide +kernel
theorem dX4_readFactor_65 : decode cX4_readFactor 65 = .ok (.iconst 1, 1) := by decide +kernel
theorem dX4_readFactor_66 : decode cX4_readFactor 66 = .ok (.goto 4, 3) := by decide +kernel
theorem dX4_readFactor_69 : decode cX4_readFactor 69 = .ok (.iconst 0, 1) := by decide +kernel
theorem dX4_readFactor_70 : decode cX4_readFactor 70 = .ok (.ireturn, 1) := by decide +kernel
theorem dX4_readFactor_71 : decode cX4_readFactor 71 = .ok (.iload_n 2, 1) := by decide +kernel
theorem dX4_readFactor_72 : decode cX4_readFactor 72 = .ok (.invokestatic 101, 3) := by decide +kernel
theorem dX4_readFactor_75 : decode cX4_readFactor 75 = .ok (.ifCond .eq 8, 3) := by decide +kernel
theorem dX4_readFactor_78 : decode cX4_readFactor 78 = .ok (.aload_n 0, 1) := by decide +kernel
theorem dX4_readFactor_79 : decode cX4_readFactor 79 = .ok (.invokevirtual 104, 3) := by decide +kernel
theorem dX4_readFactor_82 : decode cX4_readFactor 82 = .ok (.ireturn, 1) := by decide +kernel
theorem dX4_readFactor_83 : decode cX4_readFactor 83 = .ok (.iload_n 2, 1) := by decide +kernel
theorem dX4_readFactor_84 : decode cX4_readFactor 84 = .ok (.invokestatic 107, 3) := by decide +kernel
theorem dX4_readFactor_87 : decode cX4_readFactor 87 = .ok (.istore_n 3, 1) := by decide +kernel
theorem dX4_readFactor_88 : decode cX4_readFactor 88 = .ok (.iload_n 3, 1) := by decide +kernel
theorem dX4_readFactor_89 : decode cX4_readFactor 89 = .ok (.iconst (-1), 1) := by decide +kernel
theorem dX4_readFactor_90 : decode cX4_readFactor 90 = .ok (.if_icmp .ne 19, 3) := by decide +kernel
theorem dX4_readFactor_93 : decode cX4_readFactor 93 = .ok (.aload_n 0, 1) := by decide +kernel
theorem dX4_readFactor_94 : decode cX4_readFactor 94 = .ok (.getfield 9, 3) := by decide +kernel
theorem dX4_readFactor_97 : decode cX4_readFactor 97 = .ok (.iconst 1, 1) := by decide +kernel
theorem dX4_readFactor_98 : decode cX4_readFactor 98 = .ok (.aload_n 0, 1) := by decide +kernel
theorem dX4_readFactor_99 : decode cX4_readFactor 99 = .ok (.getfield 9, 3) := by decide +kernel
theorem dX4_readFactor_102 : decode cX4_readFactor 102 = .ok (.invokevirtual 55, 3) := by decide +kernel
theorem dX4_readFactor_105 : decode cX4_readFactor 105 = .ok (.invokevirtual 58, 3) := by decide +kernel
theorem dX4_readFactor_108 : decode cX4_readFactor 108 = .ok (.ireturn, 1) := by decide +kernel
theorem dX4_readFactor_109 : decode cX4_readFactor 109 = .ok (.aload_n 0, 1) := by decide +kernel
theorem dX4_readFactor_110 : decode cX4_readFactor 110 = .ok (.getfield 9, 3) := by decide +kernel
theorem dX4_readFactor_113 : decode cX4_readFactor 113 = .ok (.invokevirtual 38, 3) := by decide +kernel
theorem dX4_readFactor_116 : decode cX4_readFactor 116 = .ok (.aload_n 0, 1) := by decide +kernel
theorem dX4_readFactor_117 : decode cX4_readFactor 117 = .ok (.getfield 15, 3) := by decide +kernel
theorem dX4_readFactor_120 : decode cX4_readFactor 120 = .ok (.iconst 1, 1) := by decide +kernel
theorem dX4_readFactor_121 : decode cX4_readFactor 121 = .ok (.iload_n 3, 1) := by decide +kernel
theorem dX4_readFactor_122 : decode cX4_readFactor 122 = .ok (.invokevirtual 91, 3) := by decide +kernel
theorem dX4_readFactor_125 : decode cX4_readFactor 125 = .ok (.iconst 1, 1) := by decide +kernel
theorem dX4_readFactor_126 : decode cX4_readFactor 126 = .ok (.ireturn, 1) := by decide +kernel
theorem dX4_readNumber_0 : decode cX4_readNumber 0 = .ok (.iconst 0, 1) := by decide +kernel
theorem dX4_readNumber_1 : decode cX4_readNumber 1 = .ok (.istore_n 1, 1) := by decide +kernel
theorem dX4_readNumber_2 : decode cX4_readNumber 2 = .ok (.iconst 0, 1) := by decide +kernel
theorem dX4_readNumber_3 : decode cX4_readNumber 3 = .ok (.istore_n 2, 1) := by decide +kernel
theorem dX4_readNumber_4 : decode cX4_readNumber 4 = .ok (.iload_n 2, 1) := by decide +kernel
theorem dX4_readNumber_5 : decode cX4_readNumber 5 = .ok (.iconst 5, 1) := by decide +kernel
theorem dX4_readNumber_6 : decode cX4_readNumber 6 = .ok (.if_icmp .ge 45, 3) := by decide +kernel
theorem dX4_readNumber_9 : decode cX4_readNumber 9 = .ok (.aload_n 0, 1) := by decide +kernel
theorem dX4_readNumber_10 : decode cX4_readNumber 10 = .ok (.getfield 9, 3) := by decide +kernel
theorem dX4_readNumber_13 : decode cX4_readNumber 13 = .ok (.invokevirtual 34, 3) := by decide +kernel
theorem dX4_readNumber_16 : decode cX4_readNumber 16 = .ok (.invokestatic 101, 3) := by decide +kernel
theorem dX4_readNumber_19 : decode cX4_readNumber 19 = .ok (.ifCond .eq 32, 3) := by decide +kernel
theorem dX4_readNumber_22 : decode cX4_readNumber 22 = .ok (.iload_n 1, 1) := by decide +kernel
theorem dX4_readNumber_23 : decode cX4_readNumber 23 = .ok (.bipush 10, 2) := by decide +kernel
theorem dX4_readNumber_25 : decode cX4_readNumber 25 = .ok (.imul, 1) := by decide +kernel
theorem dX4_readNumber_26 : decode cX4_readNumber 26 = .ok (.aload_n 0, 1) := by decide +kernel
theorem dX4_readNumber_27 : decode cX4_readNumber 27 = .ok (.getfield 9, 3) := by decide +kernel
theorem dX4_readNumber_30 : decode cX4_readNumber 30 = .ok (.invokevirtual 34, 3) := by decide +kernel
theorem dX4_readNumber_33 : decode cX4_readNumber 33 = .ok (.iadd, 1) := by decide +kernel
theorem dX4_readNumber_34 : decode cX4_readNumber 34 = .ok (.bipush 48, 2) := by decide +kernel
theorem dX4_readNumber_36 : decode cX4_readNumber 36 = .ok (.isub, 1) := by decide +kernel
theorem dX4_readNumber_37 : decode cX4_readNumber 37 = .ok (.istore_n 1, 1) := by decide +kernel
theorem dX4_readNumber_38 : decode cX4_readNumber 38 = .ok (.aload_n 0, 1) := by decide +kernel
theorem dX4_readNumber_39 : decode cX4_readNumber 39 = .ok (.getfield 9, 3) := by decide +kernel
theorem dX4_readNumber_42 : decode cX4_readNumber 42 = .ok (.invokevirtual 38, 3) := by decide +kernel
theorem dX4_readNumber_45 : decode cX4_readNumber 45 = .ok (.iinc 2 1, 3) := by decide +kernel
theorem dX4_readNumber_48 : decode cX4_readNumber 48 = .ok (.goto (-44), 3) := by decide +kernel
theorem dX4_readNumber_51 : decode cX4_readNumber 51 = .ok (.aload_n 0, 1) := by decide +kernel
theorem dX4_readNumber_52 : decode cX4_readNumber 52 = .ok (.getfield 9, 3) := by decide +kernel
theorem dX4_readNumber_55 : decode cX4_readNumber 55 = .ok (.invokevirtual 34, 3) := by decide +kernel
theorem dX4_readNumber_58 : decode cX4_readNumber 58 = .ok (.invokestatic 101, 3) := by decide +kernel
theorem dX4_readNumber_61 : decode cX4_readNumber 61 = .ok (.ifCond .eq 19, 3) := by decide +kernel
theorem dX4_readNumber_64 : decode cX4_readNumber 64 = .ok (.aload_n 0, 1) := by decide +kernel
theorem dX4_readNumber_65 : decode cX4_readNumber 65 = .ok (.getfield 9, 3) := by decide +kernel
theorem dX4_readNumber_68 : decode cX4_readNumber 68 = .ok (.iconst 2, 1) := by decide +kernel
theorem dX4_readNumber_69 : decode cX4_readNumber 69 = .ok (.aload_n 0, 1) := by decide +kernel
theorem dX4_readNumber_70 : decode cX4_readNumber 70 = .ok (.getfield 9, 3) := by decide +kernel
theorem dX4_readNumber_73 : decode cX4_readNumber 73 = .ok (.invokevirtual 55, 3) := by decide +kernel
theorem dX4_readNumber_76 : decode cX4_readNumber 76 = .ok (.invokevirtual 58, 3) := by decide +kernel
theorem dX4_readNumber_79 : decode cX4_readNumber 79 = .ok (.ireturn, 1) := by decide +kernel
theorem dX4_readNumber_80 : decode cX4_readNumber 80 = .ok (.aload_n 0, 1) := by decide +kernel
theorem dX4_readNumber_81 : decode cX4_readNumber 81 = .ok (.getfield 15, 3) := by decide +kernel
theorem dX4_readNumber_84 : decode cX4_readNumber 84 = .ok (.iconst 0, 1) := by decide +kernel
theorem dX4_readNumber_85 : decode cX4_readNumber 85 = .ok (.iload_n 1, 1) := by decide +kernel
theorem dX4_readNumber_86 : decode cX4_readNumber 86 = .ok (.invokevirtual 91, 3) := by decide +kernel
theorem dX4_readNumber_89 : decode cX4_readNumber 89 = .ok (.iconst 1, 1) := by decide +kernel
theorem dX4_readNumber_90 : decode cX4_readNumber 90 = .ok (.ireturn, 1) := by decide +kernel
theorem dX4_isDigit_0 : decode cX4_isDigit 0 = .ok (.iload_n 0, 1) := by decide +kernel
theorem dX4_isDigit_1 : decode cX4_isDigit 1 = .ok (.bipush 48, 2) := by decide +kernel
theorem dX4_isDigit_3 : decode cX4_isDigit 3 = .ok (.if_icmp .lt 13, 3) := by decide +kernel
theorem dX4_isDigit_6 : decode cX4_isDigit 6 = .ok (.iload_n 0, 1) := by decide +kernel
theorem dX4_isDigit_7 : decode cX4_isDigit 7 = .ok (.bipush 57, 2) := by decide +kernel
theorem dX4_isDigit_9 : decode cX4_isDigit 9 = .ok (.if_icmp .gt 7, 3) := by decide +kernel
theorem dX4_isDigit_12 : decode cX4_isDigit 12 = .ok (.iconst 1, 1) := by decide +kernel
theorem dX4_isDigit_13 : decode cX4_isDigit 13 = .ok (.goto 4, 3) := by decide +kernel
theorem dX4_isDigit_16 : decode cX4_isDigit 16 = .ok (.iconst 0, 1) := by decide +kernel
theorem dX4_isDigit_17 : decode cX4_isDigit 17 = .ok (.ireturn, 1) := by decide +kernel
theorem dX4_kindOf_0 : decode cX4_kindOf 0 = .ok (.iload_n 0, 1) := by decide +kernel
theorem dX4_kindOf_1 : decode cX4_kindOf 1 = .ok (.lookupswitch 61 #[(98, 55), (99, 57), (117, 51), (118, 53), (120, 59)], 51) := by decide +kernel
theorem dX4_kindOf_52 : decode cX4_kindOf 52 = .ok (.iconst 0, 1) := by decide +kernel
theorem dX4_kindOf_53 : decode cX4_kindOf 53 = .ok (.ireturn, 1) := by decide +kernel
theorem dX4_kindOf_54 : decode cX4_kindOf 54 = .ok (.iconst 1, 1) := by decide +kernel
theorem dX4_kindOf_55 : decode cX4_kindOf 55 = .ok (.ireturn, 1) := by decide +kernel
theorem dX4_kindOf_56 : decode cX4_kindOf 56 = .ok (.iconst 2, 1) := by decide +kernel
theorem dX4_kindOf_57 : decode cX4_kindOf 57 = .ok (.ireturn, 1) := by decide +kernel
theorem dX4_kindOf_58 : decode cX4_kindOf 58 = .ok (.iconst 3, 1) := by decide +kernel
theorem dX4_kindOf_59 : decode cX4_kindOf 59 = .ok (.ireturn, 1) := by decide +kernel
theorem dX4_kindOf_60 : decode cX4_kindOf 60 = .ok (.iconst 4, 1) := by decide +kernel
theorem dX4_kindOf_61 : decode cX4_kindOf 61 = .ok (.ireturn, 1) := by decide +kernel
theorem dX4_kindOf_62 : decode cX4_kindOf 62 = .ok (.iconst (-1), 1) := by decide +kernel
theorem dX4_kindOf_63 : decode cX4_kindOf 63 = .ok (.ireturn, 1) := by decide +kernel
theorem dX4_letterOf_0 : decode cX4_letterOf 0 = .ok (.iload_n 0, 1) := by decide +kernel
theorem dX4_letterOf_1 : decode cX4_letterOf 1 = .ok (.tableswitch 113 97 116 #[101, 113, 113, 97, 113, 113, 113, 113, 113, 113, 107, 105, 113, 103, 113, 99, 113, 113, 95, 110], 95) := by decide +kernel
theorem dX4_letterOf_96 : decode cX4_letterOf 96 = .ok (.iconst 0, 1) := by decide +kernel
theorem dX4_letterOf_97 : decode cX4_letterOf 97 = .ok (.ireturn, 1) := by decide +kernel
theorem dX4_letterOf_98 : decode cX4_letterOf 98 = .ok (.iconst 1, 1) := by decide +kernel
theorem dX4_letterOf_99 : decode cX4_letterOf 99 = .ok (.ireturn, 1) := by decide +kernel
theorem dX4_letterOf_100 : decode cX4_letterOf 100 = .ok (.iconst 2, 1) := by decide +kernel
theorem dX4_letterOf_101 : decode cX4_letterOf 101 = .ok (.ireturn, 1) := by decide +kernel
theorem dX4_letterOf_102 : decode cX4_letterOf 102 = .ok (.iconst 3, 1) := by decide +kernel
theorem dX4_letterOf_103 : decode cX4_letterOf 103 = .ok (.ireturn, 1) := by decide +kernel
theorem dX4_letterOf_104 : decode cX4_letterOf 104 = .ok (.iconst 4, 1) := by decide +kernel
theorem dX4_letterOf_105 : decode cX4_letterOf 105 = .ok (.ireturn, 1) := by decide +kernel
theorem dX4_letterOf_106 : decode cX4_letterOf 106 = .ok (.iconst 5, 1) := by decide +kernel
theorem dX4_letterOf_107 : decode cX4_letterOf 107 = .ok (.ireturn, 1) := by decide +kernel
theorem dX4_letterOf_108 : decode cX4_letterOf 108 = .ok (.bipush 6, 2) := by decide +kernel
theorem dX4_letterOf_110 : decode cX4_letterOf 110 = .ok (.ireturn, 1) := by decide +kernel
theorem dX4_letterOf_111 : decode cX4_letterOf 111 = .ok (.bipush 7, 2) := by decide +kernel
theorem dX4_letterOf_113 : decode cX4_letterOf 113 = .ok (.ireturn, 1) := by decide +kernel
theorem dX4_letterOf_114 : decode cX4_letterOf 114 = .ok (.iconst (-1), 1) := by decide +kernel
theorem dX4_letterOf_115 : decode cX4_letterOf 115 = .ok (.ireturn, 1) := by decide +kernel
theorem dX5_init_0 : decode cX5_init 0 = .ok (.aload_n 0, 1) := by decide +kernel
theorem dX5_init_1 : decode cX5_init 1 = .ok (.invokespecial 1, 3) := by decide +kernel
theorem dX5_init_4 : decode cX5_init 4 = .ok (.aload_n 0, 1) := by decide +kernel
theorem dX5_init_5 : decode cX5_init 5 = .ok (.bipush 60, 2) := by decide +kernel
theorem dX5_init_7 : decode cX5_init 7 = .ok (.newarray .int, 2) := by decide +kernel
theorem dX5_init_9 : decode cX5_init 9 = .ok (.putfield 9, 3) := by decide +kernel
theorem dX5_init_12 : decode cX5_init 12 = .ok (.aload_n 0, 1) := by decide +kernel
theorem dX5_init_13 : decode cX5_init 13 = .ok (.bipush 60, 2) := by decide +kernel
theorem dX5_init_15 : decode cX5_init 15 = .ok (.newarray .int, 2) := by decide +kernel
theorem dX5_init_17 : decode cX5_init 17 = .ok (.putfield 13, 3) := by decide +kernel
theorem dX5_init_20 : decode cX5_init 20 = .ok (.aload_n 0, 1) := by decide +kernel
theorem dX5_init_21 : decode cX5_init 21 = .ok (.bipush 61, 2) := by decide +kernel
theorem dX5_init_23 : decode cX5_init 23 = .ok (.newarray .int, 2) := by decide +kernel
theorem dX5_init_25 : decode cX5_init 25 = .ok (.putfield 16, 3) := by decide +kernel
theorem dX5_init_28 : decode cX5_init 28 = .ok (.return_, 1) := by decide +kernel
theorem dX5_length_0 : decode cX5_length 0 = .ok (.aload_n 0, 1) := by decide +kernel
theorem dX5_length_1 : decode cX5_length 1 = .ok (.getfield 19, 3) := by decide +kernel
theorem dX5_length_4 : decode cX5_length 4 = .ok (.ireturn, 1) := by decide +kernel
theorem dX5_has_0 : decode cX5_has 0 = .ok (.iload_n 1, 1) := by decide +kernel
theorem dX5_has_1 : decode cX5_has 1 = .ok (.ifCond .lt 15, 3) := by decide +kernel
theorem dX5_has_4 : decode cX5_has 4 = .ok (.iload_n 1, 1) := by decide +kernel
theorem dX5_has_5 : decode cX5_has 5 = .ok (.aload_n 0, 1) := by decide +kernel
theorem dX5_has_6 : decode cX5_has 6 = .ok (.getfield 19, 3) := by decide +kernel
theorem dX5_has_9 : decode cX5_has 9 = .ok (.if_icmp .ge 7, 3) := by decide +kernel
theorem dX5_has_12 : decode cX5_has 12 = .ok (.iconst 1, 1) := by decide +kernel
theorem dX5_has_13 : decode cX5_has 13 = .ok (.goto 4, 3) := by decide +kernel
theorem dX5_has_16 : decode cX5_has 16 = .ok (.iconst 0, 1) := by decide +kernel
theorem dX5_has_17 : decode cX5_has 17 = .ok (.ireturn, 1) := by decide +kernel
theorem dX5_noteAt_0 : decode cX5_noteAt 0 = .ok (.aload_n 0, 1) := by decide +kernel
theorem dX5_noteAt_1 : decode cX5_noteAt 1 = .ok (.iload_n 1, 1) := by decide +kernel
theorem dX5_noteAt_2 : decode cX5_noteAt 2 = .ok (.invokevirtual 23, 3) := by decide +kernel
theorem dX5_noteAt_5 : decode cX5_noteAt 5 = .ok (.ifCond .eq 12, 3) := by decide +kernel
theorem dX5_noteAt_8 : decode cX5_noteAt 8 = .ok (.aload_n 0, 1) := by decide +kernel
theorem dX5_noteAt_9 : decode cX5_noteAt 9 = .ok (.getfield 9, 3) := by decide +kernel
theorem dX5_noteAt_12 : decode cX5_noteAt 12 = .ok (.iload_n 1, 1) := by decide +kernel
theorem dX5_noteAt_13 : decode cX5_noteAt 13 = .ok (.iaload, 1) := by decide +kernel
theorem dX5_noteAt_14 : decode cX5_noteAt 14 = .ok (.goto 4, 3) := by decide +kernel
theorem dX5_noteAt_17 : decode cX5_noteAt 17 = .ok (.iconst 0, 1) := by decide +kernel
theorem dX5_noteAt_18 : decode cX5_noteAt 18 = .ok (.ireturn, 1) := by decide +kernel
theorem dX5_hasFermata_0 : decode cX5_hasFermata 0 = .ok (.aload_n 0, 1) := by decide +kernel
theorem dX5_hasFermata_1 : decode cX5_hasFermata 1 = .ok (.iload_n 1, 1) := by decide +kernel
theorem dX5_hasFermata_2 : decode cX5_hasFermata 2 = .ok (.invokevirtual 23, 3) := by decide +kernel
theorem dX5_hasFermata_5 : decode cX5_hasFermata 5 = .ok (.ifCond .eq 18, 3) := by decide +kernel
theorem dX5_hasFermata_8 : decode cX5_hasFermata 8 = .ok (.aload_n 0, 1) := by decide +kernel
theorem dX5_hasFermata_9 : decode cX5_hasFermata 9 = .ok (.getfield 13, 3) := by decide +kernel
theorem dX5_hasFermata_12 : decode cX5_hasFermata 12 = .ok (.iload_n 1, 1) := by decide +kernel
theorem dX5_hasFermata_13 : decode cX5_hasFermata 13 = .ok (.iaload, 1) := by decide +kernel
theorem dX5_hasFermata_14 : decode cX5_hasFermata 14 = .ok (.iconst 1, 1) := by decide +kernel
theorem dX5_hasFermata_15 : decode cX5_hasFermata 15 = .ok (.iand, 1) := by decide +kernel
theorem dX5_hasFermata_16 : decode cX5_hasFermata 16 = .ok (.ifCond .eq 7, 3) := by decide +kernel
theorem dX5_hasFermata_19 : decode cX5_hasFermata 19 = .ok (.iconst 1, 1) := by decide +kernel
theorem dX5_hasFermata_20 : decode cX5_hasFermata 20 = .ok (.goto 4, 3) := by decide +kernel
theorem dX5_hasFermata_23 : decode cX5_hasFermata 23 = .ok (.iconst 0, 1) := by decide +kernel
theorem dX5_hasFermata_24 : decode cX5_hasFermata 24 = .ok (.ireturn, 1) := by decide +kernel
theorem dX5_hasBreath_0 : decode cX5_hasBreath 0 = .ok (.aload_n 0, 1) := by decide +kernel
theorem dX5_hasBreath_1 : decode cX5_hasBreath 1 = .ok (.iload_n 1, 1) := by decide +kernel
theorem dX5_hasBreath_2 : decode cX5_hasBreath 2 = .ok (.invokevirtual 23, 3) := by decide +kernel
theorem dX5_hasBreath_5 : decode cX5_hasBreath 5 = .ok (.ifCond .eq 18, 3) := by decide +kernel
theorem dX5_hasBreath_8 : decode cX5_hasBreath 8 = .ok (.aload_n 0, 1) := by decide +kernel
theorem dX5_hasBreath_9 : decode cX5_hasBreath 9 = .ok (.getfield 13, 3) := by decide +kernel
theorem dX5_hasBreath_12 : decode cX5_hasBreath 12 = .ok (.iload_n 1, 1) := by decide +kernel
theorem dX5_hasBreath_13 : decode cX5_hasBreath 13 = .ok (.iaload, 1) := by decide +kernel
theorem dX5_hasBreath_14 : decode cX5_hasBreath 14 = .ok (.iconst 2, 1) := by decide +kernel
theorem dX5_hasBreath_15 : decode cX5_hasBreath 15 = .ok (.iand, 1) := by decide +kernel
theorem dX5_hasBreath_16 : decode cX5_hasBreath 16 = .ok (.ifCond .eq 7, 3) := by decide +kernel
theorem dX5_hasBreath_19 : decode cX5_hasBreath 19 = .ok (.iconst 1, 1) := by decide +kernel
theorem dX5_hasBreath_20 : decode cX5_hasBreath 20 = .ok (.goto 4, 3) := by decide +kernel
theorem dX5_hasBreath_23 : decode cX5_hasBreath 23 = .ok (.iconst 0, 1) := by decide +kernel
theorem dX5_hasBreath_24 : decode cX5_hasBreath 24 = .ok (.ireturn, 1) := by decide +kernel
theorem dX5_begins_0 : decode cX5_begins 0 = .ok (.aload_n 0, 1) := by decide +kernel
theorem dX5_begins_1 : decode cX5_begins 1 = .ok (.iload_n 1, 1) := by decide +kernel
theorem dX5_begins_2 : decode cX5_begins 2 = .ok (.invokevirtual 23, 3) := by decide +kernel
theorem dX5_begins_5 : decode cX5_begins 5 = .ok (.ifCond .eq 18, 3) := by decide +kernel
theorem dX5_begins_8 : decode cX5_begins 8 = .ok (.aload_n 0, 1) := by decide +kernel
theorem dX5_begins_9 : decode cX5_begins 9 = .ok (.getfield 13, 3) := by decide +kernel
theorem dX5_begins_12 : decode cX5_begins 12 = .ok (.iload_n 1, 1) := by decide +kernel
theorem dX5_begins_13 : decode cX5_begins 13 = .ok (.iaload, 1) := by decide +kernel
theorem dX5_begins_14 : decode cX5_begins 14 = .ok (.iconst 4, 1) := by decide +kernel
theorem dX5_begins_15 : decode cX5_begins 15 = .ok (.iand, 1) := by decide +kernel
theorem dX5_begins_16 : decode cX5_begins 16 = .ok (.ifCond .eq 7, 3) := by decide +kernel
theorem dX5_begins_19 : decode cX5_begins 19 = .ok (.iconst 1, 1) := by decide +kernel
theorem dX5_begins_20 : decode cX5_begins 20 = .ok (.goto 4, 3) := by decide +kernel
theorem dX5_begins_23 : decode cX5_begins 23 = .ok (.iconst 0, 1) := by decide +kernel
theorem dX5_begins_24 : decode cX5_begins 24 = .ok (.ireturn, 1) := by decide +kernel
theorem dX5_beginsSound_0 : decode cX5_beginsSound 0 = .ok (.aload_n 0, 1) := by decide +kernel
theorem dX5_beginsSound_1 : decode cX5_beginsSound 1 = .ok (.iload_n 1, 1) := by decide +kernel
theorem dX5_beginsSound_2 : decode cX5_beginsSound 2 = .ok (.invokevirtual 27, 3) := by decide +kernel
theorem dX5_beginsSound_5 : decode cX5_beginsSound 5 = .ok (.ifCond .eq 16, 3) := by decide +kernel
theorem dX5_beginsSound_8 : decode cX5_beginsSound 8 = .ok (.aload_n 0, 1) := by decide +kernel
theorem dX5_beginsSound_9 : decode cX5_beginsSound 9 = .ok (.getfield 9, 3) := by decide +kernel
theorem dX5_beginsSound_12 : decode cX5_beginsSound 12 = .ok (.iload_n 1, 1) := by decide +kernel
theorem dX5_beginsSound_13 : decode cX5_beginsSound 13 = .ok (.iaload, 1) := by decide +kernel
theorem dX5_beginsSound_14 : decode cX5_beginsSound 14 = .ok (.ifCond .eq 7, 3) := by decide +kernel
theorem dX5_beginsSound_17 : decode cX5_beginsSound 17 = .ok (.iconst 1, 1) := by decide +kernel
theorem dX5_beginsSound_18 : decode cX5_beginsSound 18 = .ok (.goto 4, 3) := by decide +kernel
theorem dX5_beginsSound_21 : decode cX5_beginsSound 21 = .ok (.iconst 0, 1) := by decide +kernel
theorem dX5_beginsSound_22 : decode cX5_beginsSound 22 = .ok (.ireturn, 1) := by decide +kernel
theorem dX5_fermatasWithin_0 : decode cX5_fermatasWithin 0 = .ok (.iload_n 1, 1) := by decide +kernel
theorem dX5_fermatasWithin_1 : decode cX5_fermatasWithin 1 = .ok (.ifCond .lt 20, 3) := by decide +kernel
theorem dX5_fermatasWithin_4 : decode cX5_fermatasWithin 4 = .ok (.iload_n 1, 1) := by decide +kernel
theorem dX5_fermatasWithin_5 : decode cX5_fermatasWithin 5 = .ok (.aload_n 0, 1) := by decide +kernel
theorem dX5_fermatasWithin_6 : decode cX5_fermatasWithin 6 = .ok (.getfield 19, 3) := by decide +kernel
theorem dX5_fermatasWithin_9 : decode cX5_fermatasWithin 9 = .ok (.if_icmp .gt 12, 3) := by decide +kernel
theorem dX5_fermatasWithin_12 : decode cX5_fermatasWithin 12 = .ok (.aload_n 0, 1) := by decide +kernel
theorem dX5_fermatasWithin_13 : decode cX5_fermatasWithin 13 = .ok (.getfield 16, 3) := by decide +kernel
theorem dX5_fermatasWithin_16 : decode cX5_fermatasWithin 16 = .ok (.iload_n 1, 1) := by decide +kernel
theorem dX5_fermatasWithin_17 : decode cX5_fermatasWithin 17 = .ok (.iaload, 1) := by decide +kernel
theorem dX5_fermatasWithin_18 : decode cX5_fermatasWithin 18 = .ok (.goto 4, 3) := by decide +kernel
theorem dX5_fermatasWithin_21 : decode cX5_fermatasWithin 21 = .ok (.iconst 0, 1) := by decide +kernel
theorem dX5_fermatasWithin_22 : decode cX5_fermatasWithin 22 = .ok (.ireturn, 1) := by decide +kernel
theorem dX5_fermatas_0 : decode cX5_fermatas 0 = .ok (.aload_n 0, 1) := by decide +kernel
theorem dX5_fermatas_1 : decode cX5_fermatas 1 = .ok (.aload_n 0, 1) := by decide +kernel
theorem dX5_fermatas_2 : decode cX5_fermatas 2 = .ok (.getfield 19, 3) := by decide +kernel
theorem dX5_fermatas_5 : decode cX5_fermatas 5 = .ok (.invokevirtual 30, 3) := by decide +kernel
theorem dX5_fermatas_8 : decode cX5_fermatas 8 = .ok (.ireturn, 1) := by decide +kernel
theorem dX5_beatsOf_0 : decode cX5_beatsOf 0 = .ok (.iconst 0, 1) := by decide +kernel
theorem dX5_beatsOf_1 : decode cX5_beatsOf 1 = .ok (.istore_n 2, 1) := by decide +kernel
theorem dX5_beatsOf_2 : decode cX5_beatsOf 2 = .ok (.iconst 0, 1) := by decide +kernel
theorem dX5_beatsOf_3 : decode cX5_beatsOf 3 = .ok (.istore_n 3, 1) := by decide +kernel
theorem dX5_beatsOf_4 : decode cX5_beatsOf 4 = .ok (.iload_n 3, 1) := by decide +kernel
theorem dX5_beatsOf_5 : decode cX5_beatsOf 5 = .ok (.aload_n 0, 1) := by decide +kernel
theorem dX5_beatsOf_6 : decode cX5_beatsOf 6 = .ok (.getfield 19, 3) := by decide +kernel
theorem dX5_beatsOf_9 : decode cX5_beatsOf 9 = .ok (.if_icmp .ge 22, 3) := by decide +kernel
theorem dX5_beatsOf_12 : decode cX5_beatsOf 12 = .ok (.aload_n 0, 1) := by decide +kernel
theorem dX5_beatsOf_13 : decode cX5_beatsOf 13 = .ok (.getfield 9, 3) := by decide +kernel
theorem dX5_beatsOf_16 : decode cX5_beatsOf 16 = .ok (.iload_n 3, 1) := by decide +kernel
theorem dX5_beatsOf_17 : decode cX5_beatsOf 17 = .ok (.iaload, 1) := by decide +kernel
theorem dX5_beatsOf_18 : decode cX5_beatsOf 18 = .ok (.iload_n 1, 1) := by decide +kernel
theorem dX5_beatsOf_19 : decode cX5_beatsOf 19 = .ok (.if_icmp .ne 6, 3) := by decide +kernel
theorem dX5_beatsOf_22 : decode cX5_beatsOf 22 = .ok (.iinc 2 1, 3) := by decide +kernel
theorem dX5_beatsOf_25 : decode cX5_beatsOf 25 = .ok (.iinc 3 1, 3) := by decide +kernel
theorem dX5_beatsOf_28 : decode cX5_beatsOf 28 = .ok (.goto (-24), 3) := by decide +kernel
theorem dX5_beatsOf_31 : decode cX5_beatsOf 31 = .ok (.iload_n 2, 1) := by decide +kernel
theorem dX5_beatsOf_32 : decode cX5_beatsOf 32 = .ok (.ireturn, 1) := by decide +kernel
theorem dX5_clear_0 : decode cX5_clear 0 = .ok (.aload_n 0, 1) := by decide +kernel
theorem dX5_clear_1 : decode cX5_clear 1 = .ok (.iconst 0, 1) := by decide +kernel
theorem dX5_clear_2 : decode cX5_clear 2 = .ok (.putfield 19, 3) := by decide +kernel
theorem dX5_clear_5 : decode cX5_clear 5 = .ok (.return_, 1) := by decide +kernel
theorem dX5_add_0 : decode cX5_add 0 = .ok (.aload_n 0, 1) := by decide +kernel
theorem dX5_add_1 : decode cX5_add 1 = .ok (.getfield 19, 3) := by decide +kernel
theorem dX5_add_4 : decode cX5_add 4 = .ok (.bipush 60, 2) := by decide +kernel
theorem dX5_add_6 : decode cX5_add 6 = .ok (.if_icmp .lt 4, 3) := by decide +kernel
theorem dX5_add_9 : decode cX5_add 9 = .ok (.return_, 1) := by decide +kernel
theorem dX5_add_10 : decode cX5_add 10 = .ok (.aload_n 0, 1) := by decide +kernel
theorem dX5_add_11 : decode cX5_add 11 = .ok (.getfield 9, 3) := by decide +kernel
theorem dX5_add_14 : decode cX5_add 14 = .ok (.aload_n 0, 1) := by decide +kernel
theorem dX5_add_15 : decode cX5_add 15 = .ok (.getfield 19, 3) := by decide +kernel
theorem dX5_add_18 : decode cX5_add 18 = .ok (.iload_n 1, 1) := by decide +kernel
theorem dX5_add_19 : decode cX5_add 19 = .ok (.iastore, 1) := by decide +kernel
theorem dX5_add_20 : decode cX5_add 20 = .ok (.aload_n 0, 1) := by decide +kernel
theorem dX5_add_21 : decode cX5_add 21 = .ok (.getfield 13, 3) := by decide +kernel
theorem dX5_add_24 : decode cX5_add 24 = .ok (.aload_n 0, 1) := by decide +kernel
theorem dX5_add_25 : decode cX5_add 25 = .ok (.getfield 19, 3) := by decide +kernel
theorem dX5_add_28 : decode cX5_add 28 = .ok (.iload_n 2, 1) := by decide +kernel
theorem dX5_add_29 : decode cX5_add 29 = .ok (.iastore, 1) := by decide +kernel
theorem dX5_add_30 : decode cX5_add 30 = .ok (.aload_n 0, 1) := by decide +kernel
theorem dX5_add_31 : decode cX5_add 31 = .ok (.getfield 16, 3) := by decide +kernel
theorem dX5_add_34 : decode cX5_add 34 = .ok (.aload_n 0, 1) := by decide +kernel
theorem dX5_add_35 : decode cX5_add 35 = .ok (.getfield 19, 3) := by decide +kernel
theorem dX5_add_38 : decode cX5_add 38 = .ok (.iconst 1, 1) := by decide +kernel
theorem dX5_add_39 : decode cX5_add 39 = .ok (.iadd, 1) := by decide +kernel
theorem dX5_add_40 : decode cX5_add 40 = .ok (.aload_n 0, 1) := by decide +kernel
theorem dX5_add_41 : decode cX5_add 41 = .ok (.getfield 16, 3) := by decide +kernel
theorem dX5_add_44 : decode cX5_add 44 = .ok (.aload_n 0, 1) := by decide +kernel
theorem dX5_add_45 : decode cX5_add 45 = .ok (.getfield 19, 3) := by decide +kernel
theorem dX5_add_48 : decode cX5_add 48 = .ok (.iaload, 1) := by decide +kernel
theorem dX5_add_49 : decode cX5_add 49 = .ok (.iload_n 2, 1) := by decide +kernel
theorem dX5_add_50 : decode cX5_add 50 = .ok (.iconst 1, 1) := by decide +kernel
theorem dX5_add_51 : decode cX5_add 51 = .ok (.iand, 1) := by decide +kernel
theorem dX5_add_52 : decode cX5_add 52 = .ok (.iadd, 1) := by decide +kernel
theorem dX5_add_53 : decode cX5_add 53 = .ok (.iastore, 1) := by decide +kernel
theorem dX5_add_54 : decode cX5_add 54 = .ok (.aload_n 0, 1) := by decide +kernel
theorem dX5_add_55 : decode cX5_add 55 = .ok (.dup, 1) := by decide +kernel
theorem dX5_add_56 : decode cX5_add 56 = .ok (.getfield 19, 3) := by decide +kernel
theorem dX5_add_59 : decode cX5_add 59 = .ok (.iconst 1, 1) := by decide +kernel
theorem dX5_add_60 : decode cX5_add 60 = .ok (.iadd, 1) := by decide +kernel
theorem dX5_add_61 : decode cX5_add 61 = .ok (.putfield 19, 3) := by decide +kernel
theorem dX5_add_64 : decode cX5_add 64 = .ok (.return_, 1) := by decide +kernel
theorem dX5_addSound_0 : decode cX5_addSound 0 = .ok (.iconst 0, 1) := by decide +kernel
theorem dX5_addSound_1 : decode cX5_addSound 1 = .ok (.istore_n 3, 1) := by decide +kernel
theorem dX5_addSound_2 : decode cX5_addSound 2 = .ok (.iload_n 3, 1) := by decide +kernel
theorem dX5_addSound_3 : decode cX5_addSound 3 = .ok (.iload_n 2, 1) := by decide +kernel
theorem dX5_addSound_4 : decode cX5_addSound 4 = .ok (.if_icmp .ge 23, 3) := by decide +kernel
theorem dX5_addSound_7 : decode cX5_addSound 7 = .ok (.aload_n 0, 1) := by decide +kernel
theorem dX5_addSound_8 : decode cX5_addSound 8 = .ok (.iload_n 1, 1) := by decide +kernel
theorem dX5_addSound_9 : decode cX5_addSound 9 = .ok (.iload_n 3, 1) := by decide +kernel
theorem dX5_addSound_10 : decode cX5_addSound 10 = .ok (.ifCond .ne 7, 3) := by decide +kernel
theorem dX5_addSound_13 : decode cX5_addSound 13 = .ok (.iconst 4, 1) := by decide +kernel
theorem dX5_addSound_14 : decode cX5_addSound 14 = .ok (.goto 4, 3) := by decide +kernel
theorem dX5_addSound_17 : decode cX5_addSound 17 = .ok (.iconst 0, 1) := by decide +kernel
theorem dX5_addSound_18 : decode cX5_addSound 18 = .ok (.invokevirtual 34, 3) := by decide +kernel
theorem dX5_addSound_21 : decode cX5_addSound 21 = .ok (.iinc 3 1, 3) := by decide +kernel
theorem dX5_addSound_24 : decode cX5_addSound 24 = .ok (.goto (-22), 3) := by decide +kernel
theorem dX5_addSound_27 : decode cX5_addSound 27 = .ok (.return_, 1) := by decide +kernel
theorem dX5_markLast_0 : decode cX5_markLast 0 = .ok (.aload_n 0, 1) := by decide +kernel
theorem dX5_markLast_1 : decode cX5_markLast 1 = .ok (.getfield 19, 3) := by decide +kernel
theorem dX5_markLast_4 : decode cX5_markLast 4 = .ok (.ifCond .le 52, 3) := by decide +kernel
theorem dX5_markLast_7 : decode cX5_markLast 7 = .ok (.aload_n 0, 1) := by decide +kernel
theorem dX5_markLast_8 : decode cX5_markLast 8 = .ok (.getfield 13, 3) := by decide +kernel
theorem dX5_markLast_11 : decode cX5_markLast 11 = .ok (.aload_n 0, 1) := by decide +kernel
theorem dX5_markLast_12 : decode cX5_markLast 12 = .ok (.getfield 19, 3) := by decide +kernel
theorem dX5_markLast_15 : decode cX5_markLast 15 = .ok (.iconst 1, 1) := by decide +kernel
theorem dX5_markLast_16 : decode cX5_markLast 16 = .ok (.isub, 1) := by decide +kernel
theorem dX5_markLast_17 : decode cX5_markLast 17 = .ok (.dup2, 1) := by decide +kernel
theorem dX5_markLast_18 : decode cX5_markLast 18 = .ok (.iaload, 1) := by decide +kernel
theorem dX5_markLast_19 : decode cX5_markLast 19 = .ok (.iload_n 1, 1) := by decide +kernel
theorem dX5_markLast_20 : decode cX5_markLast 20 = .ok (.ior, 1) := by decide +kernel
theorem dX5_markLast_21 : decode cX5_markLast 21 = .ok (.iastore, 1) := by decide +kernel
theorem dX5_markLast_22 : decode cX5_markLast 22 = .ok (.aload_n 0, 1) := by decide +kernel
theorem dX5_markLast_23 : decode cX5_markLast 23 = .ok (.getfield 16, 3) := by decide +kernel
theorem dX5_markLast_26 : decode cX5_markLast 26 = .ok (.aload_n 0, 1) := by decide +kernel
theorem dX5_markLast_27 : decode cX5_markLast 27 = .ok (.getfield 19, 3) := by decide +kernel
theorem dX5_markLast_30 : decode cX5_markLast 30 = .ok (.aload_n 0, 1) := by decide +kernel
theorem dX5_markLast_31 : decode cX5_markLast 31 = .ok (.getfield 16, 3) := by decide +kernel
theorem dX5_markLast_34 : decode cX5_markLast 34 = .ok (.aload_n 0, 1) := by decide +kernel
theorem dX5_markLast_35 : decode cX5_markLast 35 = .ok (.getfield 19, 3) := by decide +kernel
theorem dX5_markLast_38 : decode cX5_markLast 38 = .ok (.iconst 1, 1) := by decide +kernel
theorem dX5_markLast_39 : decode cX5_markLast 39 = .ok (.isub, 1) := by decide +kernel
theorem dX5_markLast_40 : decode cX5_markLast 40 = .ok (.iaload, 1) := by decide +kernel
theorem dX5_markLast_41 : decode cX5_markLast 41 = .ok (.aload_n 0, 1) := by decide +kernel
theorem dX5_markLast_42 : decode cX5_markLast 42 = .ok (.getfield 13, 3) := by decide +kernel
theorem dX5_markLast_45 : decode cX5_markLast 45 = .ok (.aload_n 0, 1) := by decide +kernel
theorem dX5_markLast_46 : decode cX5_markLast 46 = .ok (.getfield 19, 3) := by decide +kernel
theorem dX5_markLast_49 : decode cX5_markLast 49 = .ok (.iconst 1, 1) := by decide +kernel
theorem dX5_markLast_50 : decode cX5_markLast 50 = .ok (.isub, 1) := by decide +kernel
theorem dX5_markLast_51 : decode cX5_markLast 51 = .ok (.iaload, 1) := by decide +kernel
theorem dX5_markLast_52 : decode cX5_markLast 52 = .ok (.iconst 1, 1) := by decide +kernel
theorem dX5_markLast_53 : decode cX5_markLast 53 = .ok (.iand, 1) := by decide +kernel
theorem dX5_markLast_54 : decode cX5_markLast 54 = .ok (.iadd, 1) := by decide +kernel
theorem dX5_markLast_55 : decode cX5_markLast 55 = .ok (.iastore, 1) := by decide +kernel
theorem dX5_markLast_56 : decode cX5_markLast 56 = .ok (.return_, 1) := by decide +kernel
theorem dX5_repeat_0 : decode cX5_repeat 0 = .ok (.aload_n 0, 1) := by decide +kernel
theorem dX5_repeat_1 : decode cX5_repeat 1 = .ok (.getfield 19, 3) := by decide +kernel
theorem dX5_repeat_4 : decode cX5_repeat 4 = .ok (.iload_n 1, 1) := by decide +kernel
theorem dX5_repeat_5 : decode cX5_repeat 5 = .ok (.isub, 1) := by decide +kernel
theorem dX5_repeat_6 : decode cX5_repeat 6 = .ok (.istore_n 3, 1) := by decide +kernel
theorem dX5_repeat_7 : decode cX5_repeat 7 = .ok (.iconst 0, 1) := by decide +kernel
theorem dX5_repeat_8 : decode cX5_repeat 8 = .ok (.istore 4, 2) := by decide +kernel
theorem dX5_repeat_10 : decode cX5_repeat 10 = .ok (.iload 4, 2) := by decide +kernel
theorem dX5_repeat_12 : decode cX5_repeat 12 = .ok (.iload_n 3, 1) := by decide +kernel
theorem dX5_repeat_13 : decode cX5_repeat 13 = .ok (.iload_n 2, 1) := by decide +kernel
theorem dX5_repeat_14 : decode cX5_repeat 14 = .ok (.iconst 1, 1) := by decide +kernel
theorem dX5_repeat_15 : decode cX5_repeat 15 = .ok (.isub, 1) := by decide +kernel
theorem dX5_repeat_16 : decode cX5_repeat 16 = .ok (.imul, 1) := by decide +kernel
theorem dX5_repeat_17 : decode cX5_repeat 17 = .ok (.if_icmp .ge 42, 3) := by decide +kernel
theorem dX5_repeat_20 : decode cX5_repeat 20 = .ok (.aload_n 0, 1) := by decide +kernel
theorem dX5_repeat_21 : decode cX5_repeat 21 = .ok (.iload_n 1, 1) := by decide +kernel
theorem dX5_repeat_22 : decode cX5_repeat 22 = .ok (.iload 4, 2) := by decide +kernel
theorem dX5_repeat_24 : decode cX5_repeat 24 = .ok (.iadd, 1) := by decide +kernel
theorem dX5_repeat_25 : decode cX5_repeat 25 = .ok (.invokevirtual 23, 3) := by decide +kernel
theorem dX5_repeat_28 : decode cX5_repeat 28 = .ok (.ifCond .eq 25, 3) := by decide +kernel
theorem dX5_repeat_31 : decode cX5_repeat 31 = .ok (.aload_n 0, 1) := by decide +kernel
theorem dX5_repeat_32 : decode cX5_repeat 32 = .ok (.aload_n 0, 1) := by decide +kernel
theorem dX5_repeat_33 : decode cX5_repeat 33 = .ok (.getfield 9, 3) := by decide +kernel
theorem dX5_repeat_36 : decode cX5_repeat 36 = .ok (.iload_n 1, 1) := by decide +kernel
theorem dX5_repeat_37 : decode cX5_repeat 37 = .ok (.iload 4, 2) := by decide +kernel
theorem dX5_repeat_39 : decode cX5_repeat 39 = .ok (.iadd, 1) := by decide +kernel
theorem dX5_repeat_40 : decode cX5_repeat 40 = .ok (.iaload, 1) := by decide +kernel
theorem dX5_repeat_41 : decode cX5_repeat 41 = .ok (.aload_n 0, 1) := by decide +kernel
theorem dX5_repeat_42 : decode cX5_repeat 42 = .ok (.getfield 13, 3) := by decide +kernel
theorem dX5_repeat_45 : decode cX5_repeat 45 = .ok (.iload_n 1, 1) := by decide +kernel
theorem dX5_repeat_46 : decode cX5_repeat 46 = .ok (.iload 4, 2) := by decide +kernel
theorem dX5_repeat_48 : decode cX5_repeat 48 = .ok (.iadd, 1) := by decide +kernel
theorem dX5_repeat_49 : decode cX5_repeat 49 = .ok (.iaload, 1) := by decide +kernel
theorem dX5_repeat_50 : decode cX5_repeat 50 = .ok (.invokevirtual 34, 3) := by decide +kernel
theorem dX5_repeat_53 : decode cX5_repeat 53 = .ok (.iinc 4 1, 3) := by decide +kernel
theorem dX5_repeat_56 : decode cX5_repeat 56 = .ok (.goto (-46), 3) := by decide +kernel
theorem dX5_repeat_59 : decode cX5_repeat 59 = .ok (.return_, 1) := by decide +kernel
theorem dX6_init_0 : decode cX6_init 0 = .ok (.aload_n 0, 1) := by decide +kernel
theorem dX6_init_1 : decode cX6_init 1 = .ok (.invokespecial 3, 3) := by decide +kernel
theorem dX6_init_4 : decode cX6_init 4 = .ok (.aload_n 0, 1) := by decide +kernel
theorem dX6_init_5 : decode cX6_init 5 = .ok (.aload_n 1, 1) := by decide +kernel
theorem dX6_init_6 : decode cX6_init 6 = .ok (.putfield 9, 3) := by decide +kernel
theorem dX6_init_9 : decode cX6_init 9 = .ok (.aload_n 0, 1) := by decide +kernel
theorem dX6_init_10 : decode cX6_init 10 = .ok (.aload_n 2, 1) := by decide +kernel
theorem dX6_init_11 : decode cX6_init 11 = .ok (.putfield 15, 3) := by decide +kernel
theorem dX6_init_14 : decode cX6_init 14 = .ok (.return_, 1) := by decide +kernel
theorem dX6_readRoll_0 : decode cX6_readRoll 0 = .ok (.aload_n 0, 1) := by decide +kernel
theorem dX6_readRoll_1 : decode cX6_readRoll 1 = .ok (.aload_n 2, 1) := by decide +kernel
theorem dX6_readRoll_2 : decode cX6_readRoll 2 = .ok (.putfield 15, 3) := by decide +kernel
theorem dX6_readRoll_5 : decode cX6_readRoll 5 = .ok (.aload_n 0, 1) := by decide +kernel
theorem dX6_readRoll_6 : decode cX6_readRoll 6 = .ok (.getfield 15, 3) := by decide +kernel
theorem dX6_readRoll_9 : decode cX6_readRoll 9 = .ok (.invokevirtual 19, 3) := by decide +kernel
theorem dX6_readRoll_12 : decode cX6_readRoll 12 = .ok (.aload_n 0, 1) := by decide +kernel
theorem dX6_readRoll_13 : decode cX6_readRoll 13 = .ok (.getfield 9, 3) := by decide +kernel
theorem dX6_readRoll_16 : decode cX6_readRoll 16 = .ok (.iload_n 1, 1) := by decide +kernel
theorem dX6_readRoll_17 : decode cX6_readRoll 17 = .ok (.invokevirtual 24, 3) := by decide +kernel
theorem dX6_readRoll_20 : decode cX6_readRoll 20 = .ok (.aload_n 0, 1) := by decide +kernel
theorem dX6_readRoll_21 : decode cX6_readRoll 21 = .ok (.iconst 0, 1) := by decide +kernel
theorem dX6_readRoll_22 : decode cX6_readRoll 22 = .ok (.invokevirtual 30, 3) := by decide +kernel
theorem dX6_readRoll_25 : decode cX6_readRoll 25 = .ok (.ifCond .eq 12, 3) := by decide +kernel
theorem dX6_readRoll_28 : decode cX6_readRoll 28 = .ok (.aload_n 0, 1) := by decide +kernel
theorem dX6_readRoll_29 : decode cX6_readRoll 29 = .ok (.getfield 9, 3) := by decide +kernel
theorem dX6_readRoll_32 : decode cX6_readRoll 32 = .ok (.iconst (-1), 1) := by decide +kernel
theorem dX6_readRoll_33 : decode cX6_readRoll 33 = .ok (.invokevirtual 34, 3) := by decide +kernel
theorem dX6_readRoll_36 : decode cX6_readRoll 36 = .ok (.pop, 1) := by decide +kernel
theorem dX6_readRoll_37 : decode cX6_readRoll 37 = .ok (.aload_n 0, 1) := by decide +kernel
theorem dX6_readRoll_38 : decode cX6_readRoll 38 = .ok (.getfield 9, 3) := by decide +kernel
theorem dX6_readRoll_41 : decode cX6_readRoll 41 = .ok (.aload_n 0, 1) := by decide +kernel
theorem dX6_readRoll_42 : decode cX6_readRoll 42 = .ok (.getfield 15, 3) := by decide +kernel
theorem dX6_readRoll_45 : decode cX6_readRoll 45 = .ok (.invokevirtual 37, 3) := by decide +kernel
theorem dX6_readRoll_48 : decode cX6_readRoll 48 = .ok (.invokevirtual 41, 3) := by decide +kernel
theorem dX6_readRoll_51 : decode cX6_readRoll 51 = .ok (.ireturn, 1) := by decide +kernel
theorem dX6_readItems_0 : decode cX6_readItems 0 = .ok (.aload_n 0, 1) := by decide +kernel
theorem dX6_readItems_1 : decode cX6_readItems 1 = .ok (.iload_n 1, 1) := by decide +kernel
theorem dX6_readItems_2 : decode cX6_readItems 2 = .ok (.invokevirtual 45, 3) := by decide +kernel
theorem dX6_readItems_5 : decode cX6_readItems 5 = .ok (.istore_n 2, 1) := by decide +kernel
theorem dX6_readItems_6 : decode cX6_readItems 6 = .ok (.iconst 0, 1) := by decide +kernel
theorem dX6_readItems_7 : decode cX6_readItems 7 = .ok (.istore_n 3, 1) := by decide +kernel
theorem dX6_readItems_8 : decode cX6_readItems 8 = .ok (.iload_n 3, 1) := by decide +kernel
theorem dX6_readItems_9 : decode cX6_readItems 9 = .ok (.bipush 60, 2) := by decide +kernel
theorem dX6_readItems_11 : decode cX6_readItems 11 = .ok (.if_icmp .ge 32, 3) := by decide +kernel
theorem dX6_readItems_14 : decode cX6_readItems 14 = .ok (.iload_n 2, 1) := by decide +kernel
theorem dX6_readItems_15 : decode cX6_readItems 15 = .ok (.ifCond .eq 28, 3) := by decide +kernel
theorem dX6_readItems_18 : decode cX6_readItems 18 = .ok (.aload_n 0, 1) := by decide +kernel
theorem dX6_readItems_19 : decode cX6_readItems 19 = .ok (.getfield 9, 3) := by decide +kernel
theorem dX6_readItems_22 : decode cX6_readItems 22 = .ok (.invokevirtual 48, 3) := by decide +kernel
theorem dX6_readItems_25 : decode cX6_readItems 25 = .ok (.invokestatic 51, 3) := by decide +kernel
theorem dX6_readItems_28 : decode cX6_readItems 28 = .ok (.ifCond .eq 15, 3) := by decide +kernel
theorem dX6_readItems_31 : decode cX6_readItems 31 = .ok (.aload_n 0, 1) := by decide +kernel
theorem dX6_readItems_32 : decode cX6_readItems 32 = .ok (.iload_n 1, 1) := by decide +kernel
theorem dX6_readItems_33 : decode cX6_readItems 33 = .ok (.invokevirtual 45, 3) := by decide +kernel
theorem dX6_readItems_36 : decode cX6_readItems 36 = .ok (.istore_n 2, 1) := by decide +kernel
theorem dX6_readItems_37 : decode cX6_readItems 37 = .ok (.iinc 3 1, 3) := by decide +kernel
theorem dX6_readItems_40 : decode cX6_readItems 40 = .ok (.goto (-32), 3) := by decide +kernel
theorem dX6_readItems_43 : decode cX6_readItems 43 = .ok (.iload_n 2, 1) := by decide +kernel
theorem dX6_readItems_44 : decode cX6_readItems 44 = .ok (.ireturn, 1) := by decide +kernel
theorem dX6_readItem_0 : decode cX6_readItem 0 = .ok (.aload_n 0, 1) := by decide +kernel
theorem dX6_readItem_1 : decode cX6_readItem 1 = .ok (.getfield 9, 3) := by decide +kernel
theorem dX6_readItem_4 : decode cX6_readItem 4 = .ok (.invokevirtual 48, 3) := by decide +kernel
theorem dX6_readItem_7 : decode cX6_readItem 7 = .ok (.istore_n 2, 1) := by decide +kernel
theorem dX6_readItem_8 : decode cX6_readItem 8 = .ok (.iload_n 2, 1) := by decide +kernel
theorem dX6_readItem_9 : decode cX6_readItem 9 = .ok (.invokestatic 51, 3) := by decide +kernel
theorem dX6_readItem_12 : decode cX6_readItem 12 = .ok (.ifCond .ne 19, 3) := by decide +kernel
theorem dX6_readItem_15 : decode cX6_readItem 15 = .ok (.aload_n 0, 1) := by decide +kernel
theorem dX6_readItem_16 : decode cX6_readItem 16 = .ok (.getfield 9, 3) := by decide +kernel
theorem dX6_readItem_19 : decode cX6_readItem 19 = .ok (.iconst 1, 1) := by decide +kernel
theorem dX6_readItem_20 : decode cX6_readItem 20 = .ok (.aload_n 0, 1) := by decide +kernel
theorem dX6_readItem_21 : decode cX6_readItem 21 = .ok (.getfield 9, 3) := by decide +kernel
theorem dX6_readItem_24 : decode cX6_readItem 24 = .ok (.invokevirtual 54, 3) := by decide +kernel
theorem dX6_readItem_27 : decode cX6_readItem 27 = .ok (.invokevirtual 57, 3) := by decide +kernel
theorem dX6_readItem_30 : decode cX6_readItem 30 = .ok (.ireturn, 1) := by decide +kernel
theorem dX6_readItem_31 : decode cX6_readItem 31 = .ok (.iload_n 2, 1) := by decide +kernel
theorem dX6_readItem_32 : decode cX6_readItem 32 = .ok (.bipush 40, 2) := by decide +kernel
theorem dX6_readItem_34 : decode cX6_readItem 34 = .ok (.if_icmp .ne 11, 3) := by decide +kernel
theorem dX6_readItem_37 : decode cX6_readItem 37 = .ok (.aload_n 0, 1) := by decide +kernel
theorem dX6_readItem_38 : decode cX6_readItem 38 = .ok (.iload_n 1, 1) := by decide +kernel
theorem dX6_readItem_39 : decode cX6_readItem 39 = .ok (.invokevirtual 61, 3) := by decide +kernel
theorem dX6_readItem_42 : decode cX6_readItem 42 = .ok (.goto 11, 3) := by decide +kernel
theorem dX6_readItem_45 : decode cX6_readItem 45 = .ok (.aload_n 0, 1) := by decide +kernel
theorem dX6_readItem_46 : decode cX6_readItem 46 = .ok (.iload_n 2, 1) := by decide +kernel
theorem dX6_readItem_47 : decode cX6_readItem 47 = .ok (.invokestatic 64, 3) := by decide +kernel
theorem dX6_readItem_50 : decode cX6_readItem 50 = .ok (.invokevirtual 67, 3) := by decide +kernel
theorem dX6_readItem_53 : decode cX6_readItem 53 = .ok (.ireturn, 1) := by decide +kernel
theorem dX6_readSound_0 : decode cX6_readSound 0 = .ok (.aload_n 0, 1) := by decide +kernel
theorem dX6_readSound_1 : decode cX6_readSound 1 = .ok (.getfield 9, 3) := by decide +kernel
theorem dX6_readSound_4 : decode cX6_readSound 4 = .ok (.invokevirtual 54, 3) := by decide +kernel
theorem dX6_readSound_7 : decode cX6_readSound 7 = .ok (.istore_n 2, 1) := by decide +kernel
theorem dX6_readSound_8 : decode cX6_readSound 8 = .ok (.aload_n 0, 1) := by decide +kernel
theorem dX6_readSound_9 : decode cX6_readSound 9 = .ok (.getfield 9, 3) := by decide +kernel
theorem dX6_readSound_12 : decode cX6_readSound 12 = .ok (.invokevirtual 70, 3) := by decide +kernel
theorem dX6_readSound_15 : decode cX6_readSound 15 = .ok (.iconst 1, 1) := by decide +kernel
theorem dX6_readSound_16 : decode cX6_readSound 16 = .ok (.istore_n 3, 1) := by decide +kernel
theorem dX6_readSound_17 : decode cX6_readSound 17 = .ok (.aload_n 0, 1) := by decide +kernel
theorem dX6_readSound_18 : decode cX6_readSound 18 = .ok (.getfield 9, 3) := by decide +kernel
theorem dX6_readSound_21 : decode cX6_readSound 21 = .ok (.invokevirtual 48, 3) := by decide +kernel
theorem dX6_readSound_24 : decode cX6_readSound 24 = .ok (.invokestatic 73, 3) := by decide +kernel
theorem dX6_readSound_27 : decode cX6_readSound 27 = .ok (.ifCond .eq 21, 3) := by decide +kernel
theorem dX6_readSound_30 : decode cX6_readSound 30 = .ok (.aload_n 0, 1) := by decide +kernel
theorem dX6_readSound_31 : decode cX6_readSound 31 = .ok (.getfield 9, 3) := by decide +kernel
theorem dX6_readSound_34 : decode cX6_readSound 34 = .ok (.invokevirtual 48, 3) := by decide +kernel
theorem dX6_readSound_37 : decode cX6_readSound 37 = .ok (.bipush 48, 2) := by decide +kernel
theorem dX6_readSound_39 : decode cX6_readSound 39 = .ok (.isub, 1) := by decide +kernel
theorem dX6_readSound_40 : decode cX6_readSound 40 = .ok (.istore_n 3, 1) := by decide +kernel
theorem dX6_readSound_41 : decode cX6_readSound 41 = .ok (.aload_n 0, 1) := by decide +kernel
theorem dX6_readSound_42 : decode cX6_readSound 42 = .ok (.getfield 9, 3) := by decide +kernel
theorem dX6_readSound_45 : decode cX6_readSound 45 = .ok (.invokevirtual 70, 3) := by decide +kernel
theorem dX6_readSound_48 : decode cX6_readSound 48 = .ok (.aload_n 0, 1) := by decide +kernel
theorem dX6_readSound_49 : decode cX6_readSound 49 = .ok (.getfield 15, 3) := by decide +kernel
theorem dX6_readSound_52 : decode cX6_readSound 52 = .ok (.invokevirtual 37, 3) := by decide +kernel
theorem dX6_readSound_55 : decode cX6_readSound 55 = .ok (.iload_n 3, 1) := by decide +kernel
theorem dX6_readSound_56 : decode cX6_readSound 56 = .ok (.iadd, 1) := by decide +kernel
theorem dX6_readSound_57 : decode cX6_readSound 57 = .ok (.bipush 60, 2) := by decide +kernel
theorem dX6_readSound_59 : decode cX6_readSound 59 = .ok (.if_icmp .le 14, 3) := by decide +kernel
theorem dX6_readSound_62 : decode cX6_readSound 62 = .ok (.aload_n 0, 1) := by decide +kernel
theorem dX6_readSound_63 : decode cX6_readSound 63 = .ok (.getfield 9, 3) := by decide +kernel
theorem dX6_readSound_66 : decode cX6_readSound 66 = .ok (.bipush 6, 2) := by decide +kernel
theorem dX6_readSound_68 : decode cX6_readSound 68 = .ok (.iload_n 2, 1) := by decide +kernel
theorem dX6_readSound_69 : decode cX6_readSound 69 = .ok (.invokevirtual 57, 3) := by decide +kernel
theorem dX6_readSound_72 : decode cX6_readSound 72 = .ok (.ireturn, 1) := by decide +kernel
theorem dX6_readSound_73 : decode cX6_readSound 73 = .ok (.aload_n 0, 1) := by decide +kernel
theorem dX6_readSound_74 : decode cX6_readSound 74 = .ok (.getfield 15, 3) := by decide +kernel
theorem dX6_readSound_77 : decode cX6_readSound 77 = .ok (.iload_n 1, 1) := by decide +kernel
theorem dX6_readSound_78 : decode cX6_readSound 78 = .ok (.iload_n 3, 1) := by decide +kernel
theorem dX6_readSound_79 : decode cX6_readSound 79 = .ok (.invokevirtual 76, 3) := by decide +kernel
theorem dX6_readSound_82 : decode cX6_readSound 82 = .ok (.aload_n 0, 1) := by decide +kernel
theorem dX6_readSound_83 : decode cX6_readSound 83 = .ok (.getfield 9, 3) := by decide +kernel
theorem dX6_readSound_86 : decode cX6_readSound 86 = .ok (.invokevirtual 48, 3) := by decide +kernel
theorem dX6_readSound_89 : decode cX6_readSound 89 = .ok (.bipush 94, 2) := by decide +kernel
theorem dX6_readSound_91 : decode cX6_readSound 91 = .ok (.if_icmp .ne 18, 3) := by decide +kernel
theorem dX6_readSound_94 : decode cX6_readSound 94 = .ok (.aload_n 0, 1) := by decide +kernel
theorem dX6_readSound_95 : decode cX6_readSound 95 = .ok (.getfield 9, 3) := by decide +kernel
theorem dX6_readSound_98 : decode cX6_readSound 98 = .ok (.invokevirtual 70, 3) := by decide +kernel
theorem dX6_readSound_101 : decode cX6_readSound 101 = .ok (.aload_n 0, 1) := by decide +kernel
theorem dX6_readSound_102 : decode cX6_readSound 102 = .ok (.getfield 15, 3) := by decide +kernel
theorem dX6_readSound_105 : decode cX6_readSound 105 = .ok (.iconst 1, 1) := by decide +kernel
theorem dX6_readSound_106 : decode cX6_readSound 106 = .ok (.invokevirtual 80, 3) := by decide +kernel
theorem dX6_readSound_109 : decode cX6_readSound 109 = .ok (.aload_n 0, 1) := by decide +kernel
theorem dX6_readSound_110 : decode cX6_readSound 110 = .ok (.getfield 9, 3) := by decide +kernel
theorem dX6_readSound_113 : decode cX6_readSound 113 = .ok (.invokevirtual 48, 3) := by decide +kernel
theorem dX6_readSound_116 : decode cX6_readSound 116 = .ok (.bipush 44, 2) := by decide +kernel
theorem dX6_readSound_118 : decode cX6_readSound 118 = .ok (.if_icmp .ne 18, 3) := by decide +kernel
theorem dX6_readSound_121 : decode cX6_readSound 121 = .ok (.aload_n 0, 1) := by decide +kernel
theorem dX6_readSound_122 : decode cX6_readSound 122 = .ok (.getfield 9, 3) := by decide +kernel
theorem dX6_readSound_125 : decode cX6_readSound 125 = .ok (.invokevirtual 70, 3) := by decide +kernel
theorem dX6_readSound_128 : decode cX6_readSound 128 = .ok (.aload_n 0, 1) := by decide +kernel
theorem dX6_readSound_129 : decode cX6_readSound 129 = .ok (.getfield 15, 3) := by decide +kernel
theorem dX6_readSound_132 : decode cX6_readSound 132 = .ok (.iconst 2, 1) := by decide +kernel
theorem dX6_readSound_133 : decode cX6_readSound 133 = .ok (.invokevirtual 80, 3) := by decide +kernel
theorem dX6_readSound_136 : decode cX6_readSound 136 = .ok (.iconst 1, 1) := by decide +kernel
theorem dX6_readSound_137 : decode cX6_readSound 137 = .ok (.ireturn, 1) := by decide +kernel
theorem dX6_readRound_0 : decode cX6_readRound 0 = .ok (.aload_n 0, 1) := by decide +kernel
theorem dX6_readRound_1 : decode cX6_readRound 1 = .ok (.getfield 9, 3) := by decide +kernel
theorem dX6_readRound_4 : decode cX6_readRound 4 = .ok (.invokevirtual 54, 3) := by decide +kernel
theorem dX6_readRound_7 : decode cX6_readRound 7 = .ok (.istore_n 2, 1) := by decide +kernel
theorem dX6_readRound_8 : decode cX6_readRound 8 = .ok (.aload_n 0, 1) := by decide +kernel
theorem dX6_readRound_9 : decode cX6_readRound 9 = .ok (.getfield 15, 3) := by decide +kernel
theorem dX6_readRound_12 : decode cX6_readRound 12 = .ok (.invokevirtual 37, 3) := by decide +kernel
theorem dX6_readRound_15 : decode cX6_readRound 15 = .ok (.istore_n 3, 1) := by decide +kernel
theorem dX6_readRound_16 : decode cX6_readRound 16 = .ok (.iload_n 1, 1) := by decide +kernel
theorem dX6_readRound_17 : decode cX6_readRound 17 = .ok (.iconst 2, 1) := by decide +kernel
theorem dX6_readRound_18 : decode cX6_readRound 18 = .ok (.if_icmp .lt 13, 3) := by decide +kernel
theorem dX6_readRound_21 : decode cX6_readRound 21 = .ok (.aload_n 0, 1) := by decide +kernel
theorem dX6_readRound_22 : decode cX6_readRound 22 = .ok (.getfield 9, 3) := by decide +kernel
theorem dX6_readRound_25 : decode cX6_readRound 25 = .ok (.iconst 5, 1) := by decide +kernel
theorem dX6_readRound_26 : decode cX6_readRound 26 = .ok (.iload_n 2, 1) := by decide +kernel
theorem dX6_readRound_27 : decode cX6_readRound 27 = .ok (.invokevirtual 57, 3) := by decide +kernel
theorem dX6_readRound_30 : decode cX6_readRound 30 = .ok (.ireturn, 1) := by decide +kernel
theorem dX6_readRound_31 : decode cX6_readRound 31 = .ok (.aload_n 0, 1) := by decide +kernel
theorem dX6_readRound_32 : decode cX6_readRound 32 = .ok (.getfield 9, 3) := by decide +kernel
theorem dX6_readRound_35 : decode cX6_readRound 35 = .ok (.invokevirtual 70, 3) := by decide +kernel
theorem dX6_readRound_38 : decode cX6_readRound 38 = .ok (.aload_n 0, 1) := by decide +kernel
theorem dX6_readRound_39 : decode cX6_readRound 39 = .ok (.iload_n 1, 1) := by decide +kernel
theorem dX6_readRound_40 : decode cX6_readRound 40 = .ok (.iconst 1, 1) := by decide +kernel
theorem dX6_readRound_41 : decode cX6_readRound 41 = .ok (.iadd, 1) := by decide +kernel
theorem dX6_readRound_42 : decode cX6_readRound 42 = .ok (.invokevirtual 30, 3) := by decide +kernel
theorem dX6_readRound_45 : decode cX6_readRound 45 = .ok (.ifCond .eq 15, 3) := by decide +kernel
theorem dX6_readRound_48 : decode cX6_readRound 48 = .ok (.aload_n 0, 1) := by decide +kernel
theorem dX6_readRound_49 : decode cX6_readRound 49 = .ok (.getfield 9, 3) := by decide +kernel
theorem dX6_readRound_52 : decode cX6_readRound 52 = .ok (.bipush 41, 2) := by decide +kernel
theorem dX6_readRound_54 : decode cX6_readRound 54 = .ok (.invokevirtual 34, 3) := by decide +kernel
theorem dX6_readRound_57 : decode cX6_readRound 57 = .ok (.ifCond .ne 5, 3) := by decide +kernel
theorem dX6_readRound_60 : decode cX6_readRound 60 = .ok (.iconst 0, 1) := by decide +kernel
theorem dX6_readRound_61 : decode cX6_readRound 61 = .ok (.ireturn, 1) := by decide +kernel
theorem dX6_readRound_62 : decode cX6_readRound 62 = .ok (.aload_n 0, 1) := by decide +kernel
theorem dX6_readRound_63 : decode cX6_readRound 63 = .ok (.getfield 9, 3) := by decide +kernel
theorem dX6_readRound_66 : decode cX6_readRound 66 = .ok (.invokevirtual 48, 3) := by decide +kernel
theorem dX6_readRound_69 : decode cX6_readRound 69 = .ok (.bipush 120, 2) := by decide +kernel
theorem dX6_readRound_71 : decode cX6_readRound 71 = .ok (.if_icmp .eq 5, 3) := by decide +kernel
theorem dX6_readRound_74 : decode cX6_readRound 74 = .ok (.iconst 1, 1) := by decide +kernel
theorem dX6_readRound_75 : decode cX6_readRound 75 = .ok (.ireturn, 1) := by decide +kernel
theorem dX6_readRound_76 : decode cX6_readRound 76 = .ok (.aload_n 0, 1) := by decide +kernel
theorem dX6_readRound_77 : decode cX6_readRound 77 = .ok (.getfield 9, 3) := by decide +kernel
theorem dX6_readRound_80 : decode cX6_readRound 80 = .ok (.invokevirtual 70, 3) := by decide +kernel
theorem dX6_readRound_83 : decode cX6_readRound 83 = .ok (.aload_n 0, 1) := by decide +kernel
theorem dX6_readRound_84 : decode cX6_readRound 84 = .ok (.getfield 9, 3) := by decide +kernel
theorem dX6_readRound_87 : decode cX6_readRound 87 = .ok (.invokevirtual 48, 3) := by decide +kernel
theorem dX6_readRound_90 : decode cX6_readRound 90 = .ok (.bipush 48, 2) := by decide +kernel
theorem dX6_readRound_92 : decode cX6_readRound 92 = .ok (.isub, 1) := by decide +kernel
theorem dX6_readRound_93 : decode cX6_readRound 93 = .ok (.istore 4, 2) := by decide +kernel
theorem dX6_readRound_95 : decode cX6_readRound 95 = .ok (.aload_n 0, 1) := by decide +kernel
theorem dX6_readRound_96 : decode cX6_readRound 96 = .ok (.getfield 9, 3) := by decide +kernel
theorem dX6_readRound_99 : decode cX6_readRound 99 = .ok (.invokevirtual 48, 3) := by decide +kernel
theorem dX6_readRound_102 : decode cX6_readRound 102 = .ok (.invokestatic 73, 3) := by decide +kernel
theorem dX6_readRound_105 : decode cX6_readRound 105 = .ok (.ifCond .ne 19, 3) := by decide +kernel
theorem dX6_readRound_108 : decode cX6_readRound 108 = .ok (.aload_n 0, 1) := by decide +kernel
theorem dX6_readRound_109 : decode cX6_readRound 109 = .ok (.getfield 9, 3) := by decide +kernel
theorem dX6_readRound_112 : decode cX6_readRound 112 = .ok (.iconst 1, 1) := by decide +kernel
theorem dX6_readRound_113 : decode cX6_readRound 113 = .ok (.aload_n 0, 1) := by decide +kernel
theorem dX6_readRound_114 : decode cX6_readRound 114 = .ok (.getfield 9, 3) := by decide +kernel
theorem dX6_readRound_117 : decode cX6_readRound 117 = .ok (.invokevirtual 54, 3) := by decide +kernel
theorem dX6_readRound_120 : decode cX6_readRound 120 = .ok (.invokevirtual 57, 3) := by decide +kernel
theorem dX6_readRound_123 : decode cX6_readRound 123 = .ok (.ireturn, 1) := by decide +kernel
theorem dX6_readRound_124 : decode cX6_readRound 124 = .ok (.aload_n 0, 1) := by decide +kernel
theorem dX6_readRound_125 : decode cX6_readRound 125 = .ok (.getfield 9, 3) := by decide +kernel
theorem dX6_readRound_128 : decode cX6_readRound 128 = .ok (.invokevirtual 70, 3) := by decide +kernel
theorem dX6_readRound_131 : decode cX6_readRound 131 = .ok (.iload_n 3, 1) := by decide +kernel
theorem dX6_readRound_132 : decode cX6_readRound 132 = .ok (.aload_n 0, 1) := by decide +kernel
theorem dX6_readRound_133 : decode cX6_readRound 133 = .ok (.getfield 15, 3) := by decide +kernel
theorem dX6_readRound_136 : decode cX6_readRound 136 = .ok (.invokevirtual 37, 3) := by decide +kernel
theorem dX6_readRound_139 : decode cX6_readRound 139 = .ok (.iload_n 3, 1) := by decide +kernel
theorem dX6_readRound_140 : decode cX6_readRound 140 = .ok (.isub, 1) := by decide +kernel
theorem dX6_readRound_141 : decode cX6_readRound 141 = .ok (.iload 4, 2) := by decide +kernel
theorem dX6_readRound_143 : decode cX6_readRound 143 = .ok (.imul, 1) := by decide +kernel
theorem dX6_readRound_144 : decode cX6_readRound 144 = .ok (.iadd, 1) := by decide +kernel
theorem dX6_readRound_145 : decode cX6_readRound 145 = .ok (.bipush 60, 2) := by decide +kernel
theorem dX6_readRound_147 : decode cX6_readRound 147 = .ok (.if_icmp .le 14, 3) := by decide +kernel
theorem dX6_readRound_150 : decode cX6_readRound 150 = .ok (.aload_n 0, 1) := by decide +kernel
theorem dX6_readRound_151 : decode cX6_readRound 151 = .ok (.getfield 9, 3) := by decide +kernel
theorem dX6_readRound_154 : decode cX6_readRound 154 = .ok (.bipush 6, 2) := by decide +kernel
theorem dX6_readRound_156 : decode cX6_readRound 156 = .ok (.iload_n 2, 1) := by decide +kernel
theorem dX6_readRound_157 : decode cX6_readRound 157 = .ok (.invokevirtual 57, 3) := by decide +kernel
theorem dX6_readRound_160 : decode cX6_readRound 160 = .ok (.ireturn, 1) := by decide +kernel
theorem dX6_readRound_161 : decode cX6_readRound 161 = .ok (.aload_n 0, 1) := by decide +kernel
theorem dX6_readRound_162 : decode cX6_readRound 162 = .ok (.getfield 15, 3) := by decide +kernel
theorem dX6_readRound_165 : decode cX6_readRound 165 = .ok (.iload_n 3, 1) := by decide +kernel
theorem dX6_readRound_166 : decode cX6_readRound 166 = .ok (.iload 4, 2) := by decide +kernel
theorem dX6_readRound_168 : decode cX6_readRound 168 = .ok (.invokevirtual 83, 3) := by decide +kernel
theorem dX6_readRound_171 : decode cX6_readRound 171 = .ok (.iconst 1, 1) := by decide +kernel
theorem dX6_readRound_172 : decode cX6_readRound 172 = .ok (.ireturn, 1) := by decide +kernel
theorem dX6_startsItem_0 : decode cX6_startsItem 0 = .ok (.iload_n 0, 1) := by decide +kernel
theorem dX6_startsItem_1 : decode cX6_startsItem 1 = .ok (.bipush 40, 2) := by decide +kernel
theorem dX6_startsItem_3 : decode cX6_startsItem 3 = .ok (.if_icmp .eq 11, 3) := by decide +kernel
theorem dX6_startsItem_6 : decode cX6_startsItem 6 = .ok (.iload_n 0, 1) := by decide +kernel
theorem dX6_startsItem_7 : decode cX6_startsItem 7 = .ok (.invokestatic 64, 3) := by decide +kernel
theorem dX6_startsItem_10 : decode cX6_startsItem 10 = .ok (.iconst (-1), 1) := by decide +kernel
theorem dX6_startsItem_11 : decode cX6_startsItem 11 = .ok (.if_icmp .eq 7, 3) := by decide +kernel
theorem dX6_startsItem_14 : decode cX6_startsItem 14 = .ok (.iconst 1, 1) := by decide +kernel
theorem dX6_startsItem_15 : decode cX6_startsItem 15 = .ok (.goto 4, 3) := by decide +kernel
theorem dX6_startsItem_18 : decode cX6_startsItem 18 = .ok (.iconst 0, 1) := by decide +kernel
theorem dX6_startsItem_19 : decode cX6_startsItem 19 = .ok (.ireturn, 1) := by decide +kernel
theorem dX6_noteOf_0 : decode cX6_noteOf 0 = .ok (.iload_n 0, 1) := by decide +kernel
theorem dX6_noteOf_1 : decode cX6_noteOf 1 = .ok (.bipush 46, 2) := by decide +kernel
theorem dX6_noteOf_3 : decode cX6_noteOf 3 = .ok (.if_icmp .ne 5, 3) := by decide +kernel
theorem dX6_noteOf_6 : decode cX6_noteOf 6 = .ok (.iconst 0, 1) := by decide +kernel
theorem dX6_noteOf_7 : decode cX6_noteOf 7 = .ok (.ireturn, 1) := by decide +kernel
theorem dX6_noteOf_8 : decode cX6_noteOf 8 = .ok (.iload_n 0, 1) := by decide +kernel
theorem dX6_noteOf_9 : decode cX6_noteOf 9 = .ok (.bipush 97, 2) := by decide +kernel
theorem dX6_noteOf_11 : decode cX6_noteOf 11 = .ok (.if_icmp .lt 18, 3) := by decide +kernel
theorem dX6_noteOf_14 : decode cX6_noteOf 14 = .ok (.iload_n 0, 1) := by decide +kernel
theorem dX6_noteOf_15 : decode cX6_noteOf 15 = .ok (.bipush 103, 2) := by decide +kernel
theorem dX6_noteOf_17 : decode cX6_noteOf 17 = .ok (.if_icmp .gt 12, 3) := by decide +kernel
theorem dX6_noteOf_20 : decode cX6_noteOf 20 = .ok (.iload_n 0, 1) := by decide +kernel
theorem dX6_noteOf_21 : decode cX6_noteOf 21 = .ok (.bipush 97, 2) := by decide +kernel
theorem dX6_noteOf_23 : decode cX6_noteOf 23 = .ok (.isub, 1) := by decide +kernel
theorem dX6_noteOf_24 : decode cX6_noteOf 24 = .ok (.iconst 1, 1) := by decide +kernel
theorem dX6_noteOf_25 : decode cX6_noteOf 25 = .ok (.iadd, 1) := by decide +kernel
theorem dX6_noteOf_26 : decode cX6_noteOf 26 = .ok (.goto 4, 3) := by decide +kernel
theorem dX6_noteOf_29 : decode cX6_noteOf 29 = .ok (.iconst (-1), 1) := by decide +kernel
theorem dX6_noteOf_30 : decode cX6_noteOf 30 = .ok (.ireturn, 1) := by decide +kernel
theorem dX6_isTimes_0 : decode cX6_isTimes 0 = .ok (.iload_n 0, 1) := by decide +kernel
theorem dX6_isTimes_1 : decode cX6_isTimes 1 = .ok (.bipush 50, 2) := by decide +kernel
theorem dX6_isTimes_3 : decode cX6_isTimes 3 = .ok (.if_icmp .lt 13, 3) := by decide +kernel
theorem dX6_isTimes_6 : decode cX6_isTimes 6 = .ok (.iload_n 0, 1) := by decide +kernel
theorem dX6_isTimes_7 : decode cX6_isTimes 7 = .ok (.bipush 57, 2) := by decide +kernel
theorem dX6_isTimes_9 : decode cX6_isTimes 9 = .ok (.if_icmp .gt 7, 3) := by decide +kernel
theorem dX6_isTimes_12 : decode cX6_isTimes 12 = .ok (.iconst 1, 1) := by decide +kernel
theorem dX6_isTimes_13 : decode cX6_isTimes 13 = .ok (.goto 4, 3) := by decide +kernel
theorem dX6_isTimes_16 : decode cX6_isTimes 16 = .ok (.iconst 0, 1) := by decide +kernel
theorem dX6_isTimes_17 : decode cX6_isTimes 17 = .ok (.ireturn, 1) := by decide +kernel
theorem dX7_init_0 : decode cX7_init 0 = .ok (.aload_n 0, 1) := by decide +kernel
theorem dX7_init_1 : decode cX7_init 1 = .ok (.invokespecial 3, 3) := by decide +kernel
theorem dX7_init_4 : decode cX7_init 4 = .ok (.aload_n 0, 1) := by decide +kernel
theorem dX7_init_5 : decode cX7_init 5 = .ok (.bipush 8, 2) := by decide +kernel
theorem dX7_init_7 : decode cX7_init 7 = .ok (.anewarray 9, 3) := by decide +kernel
theorem dX7_init_10 : decode cX7_init 10 = .ok (.putfield 11, 3) := by decide +kernel
theorem dX7_init_13 : decode cX7_init 13 = .ok (.iconst 0, 1) := by decide +kernel
theorem dX7_init_14 : decode cX7_init 14 = .ok (.istore_n 1, 1) := by decide +kernel
theorem dX7_init_15 : decode cX7_init 15 = .ok (.iload_n 1, 1) := by decide +kernel
theorem dX7_init_16 : decode cX7_init 16 = .ok (.bipush 8, 2) := by decide +kernel
theorem dX7_init_18 : decode cX7_init 18 = .ok (.if_icmp .ge 22, 3) := by decide +kernel
theorem dX7_init_21 : decode cX7_init 21 = .ok (.aload_n 0, 1) := by decide +kernel
theorem dX7_init_22 : decode cX7_init 22 = .ok (.getfield 11, 3) := by decide +kernel
theorem dX7_init_25 : decode cX7_init 25 = .ok (.iload_n 1, 1) := by decide +kernel
theorem dX7_init_26 : decode cX7_init 26 = .ok (.new 9, 3) := by decide +kernel
theorem dX7_init_29 : decode cX7_init 29 = .ok (.dup, 1) := by decide +kernel
theorem dX7_init_30 : decode cX7_init 30 = .ok (.invokespecial 17, 3) := by decide +kernel
theorem dX7_init_33 : decode cX7_init 33 = .ok (.aastore, 1) := by decide +kernel
theorem dX7_init_34 : decode cX7_init 34 = .ok (.iinc 1 1, 3) := by decide +kernel
theorem dX7_init_37 : decode cX7_init 37 = .ok (.goto (-22), 3) := by decide +kernel
theorem dX7_init_40 : decode cX7_init 40 = .ok (.aload_n 0, 1) := by decide +kernel
theorem dX7_init_41 : decode cX7_init 41 = .ok (.new 9, 3) := by decide +kernel
theorem dX7_init_44 : decode cX7_init 44 = .ok (.dup, 1) := by decide +kernel
theorem dX7_init_45 : decode cX7_init 45 = .ok (.invokespecial 17, 3) := by decide +kernel
theorem dX7_init_48 : decode cX7_init 48 = .ok (.putfield 18, 3) := by decide +kernel
theorem dX7_init_51 : decode cX7_init 51 = .ok (.aload_n 0, 1) := by decide +kernel
theorem dX7_init_52 : decode cX7_init 52 = .ok (.new 22, 3) := by decide +kernel
theorem dX7_init_55 : decode cX7_init 55 = .ok (.dup, 1) := by decide +kernel
theorem dX7_init_56 : decode cX7_init 56 = .ok (.invokespecial 24, 3) := by decide +kernel
theorem dX7_init_59 : decode cX7_init 59 = .ok (.putfield 25, 3) := by decide +kernel
theorem dX7_init_62 : decode cX7_init 62 = .ok (.aload_n 0, 1) := by decide +kernel
theorem dX7_init_63 : decode cX7_init 63 = .ok (.new 22, 3) := by decide +kernel
theorem dX7_init_66 : decode cX7_init 66 = .ok (.dup, 1) := by decide +kernel
theorem dX7_init_67 : decode cX7_init 67 = .ok (.invokespecial 24, 3) := by decide +kernel
theorem dX7_init_70 : decode cX7_init 70 = .ok (.putfield 29, 3) := by decide +kernel
theorem dX7_init_73 : decode cX7_init 73 = .ok (.aload_n 0, 1) := by decide +kernel
theorem dX7_init_74 : decode cX7_init 74 = .ok (.bipush 15, 2) := by decide +kernel
theorem dX7_init_76 : decode cX7_init 76 = .ok (.putfield 32, 3) := by decide +kernel
theorem dX7_init_79 : decode cX7_init 79 = .ok (.aload_n 0, 1) := by decide +kernel
theorem dX7_init_80 : decode cX7_init 80 = .ok (.bipush 120, 2) := by decide +kernel
theorem dX7_init_82 : decode cX7_init 82 = .ok (.putfield 36, 3) := by decide +kernel
theorem dX7_init_85 : decode cX7_init 85 = .ok (.return_, 1) := by decide +kernel
theorem dX7_takeSpareRoll_0 : decode cX7_takeSpareRoll 0 = .ok (.iload_n 1, 1) := by decide +kernel
theorem dX7_takeSpareRoll_1 : decode cX7_takeSpareRoll 1 = .ok (.invokestatic 39, 3) := by decide +kernel
theorem dX7_takeSpareRoll_4 : decode cX7_takeSpareRoll 4 = .ok (.ifCond .eq 25, 3) := by decide +kernel
theorem dX7_takeSpareRoll_7 : decode cX7_takeSpareRoll 7 = .ok (.aload_n 0, 1) := by decide +kernel
theorem dX7_takeSpareRoll_8 : decode cX7_takeSpareRoll 8 = .ok (.getfield 11, 3) := by decide +kernel
theorem dX7_takeSpareRoll_11 : decode cX7_takeSpareRoll 11 = .ok (.iload_n 1, 1) := by decide +kernel
theorem dX7_takeSpareRoll_12 : decode cX7_takeSpareRoll 12 = .ok (.aaload, 1) := by decide +kernel
theorem dX7_takeSpareRoll_13 : decode cX7_takeSpareRoll 13 = .ok (.astore_n 2, 1) := by decide +kernel
theorem dX7_takeSpareRoll_14 : decode cX7_takeSpareRoll 14 = .ok (.aload_n 0, 1) := by decide +kernel
theorem dX7_takeSpareRoll_15 : decode cX7_takeSpareRoll 15 = .ok (.getfield 11, 3) := by decide +kernel
theorem dX7_takeSpareRoll_18 : decode cX7_takeSpareRoll 18 = .ok (.iload_n 1, 1) := by decide +kernel
theorem dX7_takeSpareRoll_19 : decode cX7_takeSpareRoll 19 = .ok (.aload_n 0, 1) := by decide +kernel
theorem dX7_takeSpareRoll_20 : decode cX7_takeSpareRoll 20 = .ok (.getfield 18, 3) := by decide +kernel
theorem dX7_takeSpareRoll_23 : decode cX7_takeSpareRoll 23 = .ok (.aastore, 1) := by decide +kernel
theorem dX7_takeSpareRoll_24 : decode cX7_takeSpareRoll 24 = .ok (.aload_n 0, 1) := by decide +kernel
theorem dX7_takeSpareRoll_25 : decode cX7_takeSpareRoll 25 = .ok (.aload_n 2, 1) := by decide +kernel
theorem dX7_takeSpareRoll_26 : decode cX7_takeSpareRoll 26 = .ok (.putfield 18, 3) := by decide +kernel
theorem dX7_takeSpareRoll_29 : decode cX7_takeSpareRoll 29 = .ok (.return_, 1) := by decide +kernel
theorem dX7_takeSpareLaw_0 : decode cX7_takeSpareLaw 0 = .ok (.aload_n 0, 1) := by decide +kernel
theorem dX7_takeSpareLaw_1 : decode cX7_takeSpareLaw 1 = .ok (.getfield 25, 3) := by decide +kernel
theorem dX7_takeSpareLaw_4 : decode cX7_takeSpareLaw 4 = .ok (.astore_n 1, 1) := by decide +kernel
theorem dX7_takeSpareLaw_5 : decode cX7_takeSpareLaw 5 = .ok (.aload_n 0, 1) := by decide +kernel
theorem dX7_takeSpareLaw_6 : decode cX7_takeSpareLaw 6 = .ok (.aload_n 0, 1) := by decide +kernel
theorem dX7_takeSpareLaw_7 : decode cX7_takeSpareLaw 7 = .ok (.getfield 29, 3) := by decide +kernel
theorem dX7_takeSpareLaw_10 : decode cX7_takeSpareLaw 10 = .ok (.putfield 25, 3) := by decide +kernel
theorem dX7_takeSpareLaw_13 : decode cX7_takeSpareLaw 13 = .ok (.aload_n 0, 1) := by decide +kernel
theorem dX7_takeSpareLaw_14 : decode cX7_takeSpareLaw 14 = .ok (.aload_n 1, 1) := by decide +kernel
theorem dX7_takeSpareLaw_15 : decode cX7_takeSpareLaw 15 = .ok (.putfield 29, 3) := by decide +kernel
theorem dX7_takeSpareLaw_18 : decode cX7_takeSpareLaw 18 = .ok (.return_, 1) := by decide +kernel
theorem dX8_init_0 : decode cX8_init 0 = .ok (.aload_n 0, 1) := by decide +kernel
theorem dX8_init_1 : decode cX8_init 1 = .ok (.invokespecial 1, 3) := by decide +kernel
theorem dX8_init_4 : decode cX8_init 4 = .ok (.return_, 1) := by decide +kernel
theorem dX8_begin_0 : decode cX8_begin 0 = .ok (.aload_n 0, 1) := by decide +kernel
theorem dX8_begin_1 : decode cX8_begin 1 = .ok (.iconst 0, 1) := by decide +kernel
theorem dX8_begin_2 : decode cX8_begin 2 = .ok (.putfield 7, 3) := by decide +kernel
theorem dX8_begin_5 : decode cX8_begin 5 = .ok (.aload_n 0, 1) := by decide +kernel
theorem dX8_begin_6 : decode cX8_begin 6 = .ok (.iconst 0, 1) := by decide +kernel
theorem dX8_begin_7 : decode cX8_begin 7 = .ok (.putfield 13, 3) := by decide +kernel
theorem dX8_begin_10 : decode cX8_begin 10 = .ok (.aload_n 0, 1) := by decide +kernel
theorem dX8_begin_11 : decode cX8_begin 11 = .ok (.aload_n 0, 1) := by decide +kernel
theorem dX8_begin_12 : decode cX8_begin 12 = .ok (.getfield 16, 3) := by decide +kernel
theorem dX8_begin_15 : decode cX8_begin 15 = .ok (.putfield 19, 3) := by decide +kernel
theorem dX8_begin_18 : decode cX8_begin 18 = .ok (.aload_n 0, 1) := by decide +kernel
theorem dX8_begin_19 : decode cX8_begin 19 = .ok (.iconst 0, 1) := by decide +kernel
theorem dX8_begin_20 : decode cX8_begin 20 = .ok (.putfield 22, 3) := by decide +kernel
theorem dX8_begin_23 : decode cX8_begin 23 = .ok (.aload_n 0, 1) := by decide +kernel
theorem dX8_begin_24 : decode cX8_begin 24 = .ok (.iconst 0, 1) := by decide +kernel
theorem dX8_begin_25 : decode cX8_begin 25 = .ok (.putfield 25, 3) := by decide +kernel
theorem dX8_begin_28 : decode cX8_begin 28 = .ok (.return_, 1) := by decide +kernel
theorem dX8_copyFrom_0 : decode cX8_copyFrom 0 = .ok (.aload_n 0, 1) := by decide +kernel
theorem dX8_copyFrom_1 : decode cX8_copyFrom 1 = .ok (.aload_n 1, 1) := by decide +kernel
theorem dX8_copyFrom_2 : decode cX8_copyFrom 2 = .ok (.getfield 29, 3) := by decide +kernel
theorem dX8_copyFrom_5 : decode cX8_copyFrom 5 = .ok (.putfield 29, 3) := by decide +kernel
theorem dX8_copyFrom_8 : decode cX8_copyFrom 8 = .ok (.aload_n 0, 1) := by decide +kernel
theorem dX8_copyFrom_9 : decode cX8_copyFrom 9 = .ok (.aload_n 1, 1) := by decide +kernel
theorem dX8_copyFrom_10 : decode cX8_copyFrom 10 = .ok (.getfield 32, 3) := by decide +kernel
theorem dX8_copyFrom_13 : decode cX8_copyFrom 13 = .ok (.putfield 32, 3) := by decide +kernel
theorem dX8_copyFrom_16 : decode cX8_copyFrom 16 = .ok (.aload_n 0, 1) := by decide +kernel
theorem dX8_copyFrom_17 : decode cX8_copyFrom 17 = .ok (.aload_n 1, 1) := by decide +kernel
theorem dX8_copyFrom_18 : decode cX8_copyFrom 18 = .ok (.getfield 35, 3) := by decide +kernel
theorem dX8_copyFrom_21 : decode cX8_copyFrom 21 = .ok (.putfield 35, 3) := by decide +kernel
theorem dX8_copyFrom_24 : decode cX8_copyFrom 24 = .ok (.aload_n 0, 1) := by decide +kernel
theorem dX8_copyFrom_25 : decode cX8_copyFrom 25 = .ok (.aload_n 1, 1) := by decide +kernel
theorem dX8_copyFrom_26 : decode cX8_copyFrom 26 = .ok (.getfield 38, 3) := by decide +kernel
theorem dX8_copyFrom_29 : decode cX8_copyFrom 29 = .ok (.putfield 38, 3) := by decide +kernel
theorem dX8_copyFrom_32 : decode cX8_copyFrom 32 = .ok (.aload_n 0, 1) := by decide +kernel
theorem dX8_copyFrom_33 : decode cX8_copyFrom 33 = .ok (.aload_n 1, 1) := by decide +kernel
theorem dX8_copyFrom_34 : decode cX8_copyFrom 34 = .ok (.getfield 16, 3) := by decide +kernel
theorem dX8_copyFrom_37 : decode cX8_copyFrom 37 = .ok (.putfield 16, 3) := by decide +kernel
theorem dX8_copyFrom_40 : decode cX8_copyFrom 40 = .ok (.aload_n 0, 1) := by decide +kernel
theorem dX8_copyFrom_41 : decode cX8_copyFrom 41 = .ok (.aload_n 1, 1) := by decide +kernel
theorem dX8_copyFrom_42 : decode cX8_copyFrom 42 = .ok (.getfield 7, 3) := by decide +kernel
theorem dX8_copyFrom_45 : decode cX8_copyFrom 45 = .ok (.putfield 7, 3) := by decide +kernel
theorem dX8_copyFrom_48 : decode cX8_copyFrom 48 = .ok (.aload_n 0, 1) := by decide +kernel
theorem dX8_copyFrom_49 : decode cX8_copyFrom 49 = .ok (.aload_n 1, 1) := by decide +kernel
theorem dX8_copyFrom_50 : decode cX8_copyFrom 50 = .ok (.getfield 13, 3) := by decide +kernel
theorem dX8_copyFrom_53 : decode cX8_copyFrom 53 = .ok (.putfield 13, 3) := by decide +kernel
theorem dX8_copyFrom_56 : decode cX8_copyFrom 56 = .ok (.aload_n 0, 1) := by decide +kernel
theorem dX8_copyFrom_57 : decode cX8_copyFrom 57 = .ok (.aload_n 1, 1) := by decide +kernel
theorem dX8_copyFrom_58 : decode cX8_copyFrom 58 = .ok (.getfield 19, 3) := by decide +kernel
theorem dX8_copyFrom_61 : decode cX8_copyFrom 61 = .ok (.putfield 19, 3) := by decide +kernel
theorem dX8_copyFrom_64 : decode cX8_copyFrom 64 = .ok (.aload_n 0, 1) := by decide +kernel
theorem dX8_copyFrom_65 : decode cX8_copyFrom 65 = .ok (.aload_n 1, 1) := by decide +kernel
theorem dX8_copyFrom_66 : decode cX8_copyFrom 66 = .ok (.getfield 22, 3) := by decide +kernel
theorem dX8_copyFrom_69 : decode cX8_copyFrom 69 = .ok (.putfield 22, 3) := by decide +kernel
theorem dX8_copyFrom_72 : decode cX8_copyFrom 72 = .ok (.aload_n 0, 1) := by decide +kernel
theorem dX8_copyFrom_73 : decode cX8_copyFrom 73 = .ok (.aload_n 1, 1) := by decide +kernel
theorem dX8_copyFrom_74 : decode cX8_copyFrom 74 = .ok (.getfield 25, 3) := by decide +kernel
theorem dX8_copyFrom_77 : decode cX8_copyFrom 77 = .ok (.putfield 25, 3) := by decide +kernel
theorem dX8_copyFrom_80 : decode cX8_copyFrom 80 = .ok (.return_, 1) := by decide +kernel
theorem dX8_speed_0 : decode cX8_speed 0 = .ok (.bipush 60, 2) := by decide +kernel
theorem dX8_speed_2 : decode cX8_speed 2 = .ok (.aload_n 0, 1) := by decide +kernel
theorem dX8_speed_3 : decode cX8_speed 3 = .ok (.getfield 32, 3) := by decide +kernel
theorem dX8_speed_6 : decode cX8_speed 6 = .ok (.iadd, 1) := by decide +kernel
theorem dX8_speed_7 : decode cX8_speed 7 = .ok (.ireturn, 1) := by decide +kernel
theorem dX8_secondsShown_0 : decode cX8_secondsShown 0 = .ok (.iload_n 1, 1) := by decide +kernel
theorem dX8_secondsShown_1 : decode cX8_secondsShown 1 = .ok (.aload_n 0, 1) := by decide +kernel
theorem dX8_secondsShown_2 : decode cX8_secondsShown 2 = .ok (.invokevirtual 41, 3) := by decide +kernel
theorem dX8_secondsShown_5 : decode cX8_secondsShown 5 = .ok (.imul, 1) := by decide +kernel
theorem dX8_secondsShown_6 : decode cX8_secondsShown 6 = .ok (.bipush 60, 2) := by decide +kernel
theorem dX8_secondsShown_8 : decode cX8_secondsShown 8 = .ok (.idiv, 1) := by decide +kernel
theorem dX8_secondsShown_9 : decode cX8_secondsShown 9 = .ok (.ireturn, 1) := by decide +kernel
theorem dX8_hears_0 : decode cX8_hears 0 = .ok (.aload_n 1, 1) := by decide +kernel
theorem dX8_hears_1 : decode cX8_hears 1 = .ok (.getfield 35, 3) := by decide +kernel
theorem dX8_hears_4 : decode cX8_hears 4 = .ok (.aload_n 0, 1) := by decide +kernel
theorem dX8_hears_5 : decode cX8_hears 5 = .ok (.getfield 35, 3) := by decide +kernel
theorem dX8_hears_8 : decode cX8_hears 8 = .ok (.isub, 1) := by decide +kernel
theorem dX8_hears_9 : decode cX8_hears 9 = .ok (.istore_n 3, 1) := by decide +kernel
theorem dX8_hears_10 : decode cX8_hears 10 = .ok (.aload_n 1, 1) := by decide +kernel
theorem dX8_hears_11 : decode cX8_hears 11 = .ok (.getfield 29, 3) := by decide +kernel
theorem dX8_hears_14 : decode cX8_hears 14 = .ok (.ifCond .eq 11, 3) := by decide +kernel
theorem dX8_hears_17 : decode cX8_hears 17 = .ok (.iload_n 3, 1) := by decide +kernel
theorem dX8_hears_18 : decode cX8_hears 18 = .ok (.invokestatic 45, 3) := by decide +kernel
theorem dX8_hears_21 : decode cX8_hears 21 = .ok (.iload_n 2, 1) := by decide +kernel
theorem dX8_hears_22 : decode cX8_hears 22 = .ok (.if_icmp .le 5, 3) := by decide +kernel
theorem dX8_hears_25 : decode cX8_hears 25 = .ok (.iconst 0, 1) := by decide +kernel
theorem dX8_hears_26 : decode cX8_hears 26 = .ok (.ireturn, 1) := by decide +kernel
theorem dX8_hears_27 : decode cX8_hears 27 = .ok (.iload_n 3, 1) := by decide +kernel
theorem dX8_hears_28 : decode cX8_hears 28 = .ok (.ifCond .ne 17, 3) := by decide +kernel
theorem dX8_hears_31 : decode cX8_hears 31 = .ok (.aload_n 0, 1) := by decide +kernel
theorem dX8_hears_32 : decode cX8_hears 32 = .ok (.getfield 38, 3) := by decide +kernel
theorem dX8_hears_35 : decode cX8_hears 35 = .ok (.iconst 3, 1) := by decide +kernel
theorem dX8_hears_36 : decode cX8_hears 36 = .ok (.if_icmp .eq 7, 3) := by decide +kernel
theorem dX8_hears_39 : decode cX8_hears 39 = .ok (.iconst 1, 1) := by decide +kernel
theorem dX8_hears_40 : decode cX8_hears 40 = .ok (.goto 4, 3) := by decide +kernel
theorem dX8_hears_43 : decode cX8_hears 43 = .ok (.iconst 0, 1) := by decide +kernel
theorem dX8_hears_44 : decode cX8_hears 44 = .ok (.ireturn, 1) := by decide +kernel
theorem dX8_hears_45 : decode cX8_hears 45 = .ok (.aload_n 0, 1) := by decide +kernel
theorem dX8_hears_46 : decode cX8_hears 46 = .ok (.getfield 38, 3) := by decide +kernel
theorem dX8_hears_49 : decode cX8_hears 49 = .ok (.iload_n 3, 1) := by decide +kernel
theorem dX8_hears_50 : decode cX8_hears 50 = .ok (.ifCond .ge 7, 3) := by decide +kernel
theorem dX8_hears_53 : decode cX8_hears 53 = .ok (.iconst 1, 1) := by decide +kernel
theorem dX8_hears_54 : decode cX8_hears 54 = .ok (.goto 4, 3) := by decide +kernel
theorem dX8_hears_57 : decode cX8_hears 57 = .ok (.iconst 2, 1) := by decide +kernel
theorem dX8_hears_58 : decode cX8_hears 58 = .ok (.iand, 1) := by decide +kernel
theorem dX8_hears_59 : decode cX8_hears 59 = .ok (.ifCond .ne 7, 3) := by decide +kernel
theorem dX8_hears_62 : decode cX8_hears 62 = .ok (.iconst 1, 1) := by decide +kernel
theorem dX8_hears_63 : decode cX8_hears 63 = .ok (.goto 4, 3) := by decide +kernel
theorem dX8_hears_66 : decode cX8_hears 66 = .ok (.iconst 0, 1) := by decide +kernel
theorem dX8_hears_67 : decode cX8_hears 67 = .ok (.ireturn, 1) := by decide +kernel
theorem dX9_init_0 : decode cX9_init 0 = .ok (.aload_n 0, 1) := by decide +kernel
theorem dX9_init_1 : decode cX9_init 1 = .ok (.invokespecial 3, 3) := by decide +kernel
theorem dX9_init_4 : decode cX9_init 4 = .ok (.aload_n 0, 1) := by decide +kernel
theorem dX9_init_5 : decode cX9_init 5 = .ok (.bipush 8, 2) := by decide +kernel
theorem dX9_init_7 : decode cX9_init 7 = .ok (.anewarray 9, 3) := by decide +kernel
theorem dX9_init_10 : decode cX9_init 10 = .ok (.putfield 11, 3) := by decide +kernel
theorem dX9_init_13 : decode cX9_init 13 = .ok (.iconst 0, 1) := by decide +kernel
theorem dX9_init_14 : decode cX9_init 14 = .ok (.istore_n 1, 1) := by decide +kernel
theorem dX9_init_15 : decode cX9_init 15 = .ok (.iload_n 1, 1) := by decide +kernel
theorem dX9_init_16 : decode cX9_init 16 = .ok (.bipush 8, 2) := by decide +kernel
theorem dX9_init_18 : decode cX9_init 18 = .ok (.if_icmp .ge 22, 3) := by decide +kernel
theorem dX9_init_21 : decode cX9_init 21 = .ok (.aload_n 0, 1) := by decide +kernel
theorem dX9_init_22 : decode cX9_init 22 = .ok (.getfield 11, 3) := by decide +kernel
theorem dX9_init_25 : decode cX9_init 25 = .ok (.iload_n 1, 1) := by decide +kernel
theorem dX9_init_26 : decode cX9_init 26 = .ok (.new 9, 3) := by decide +kernel
theorem dX9_init_29 : decode cX9_init 29 = .ok (.dup, 1) := by decide +kernel
theorem dX9_init_30 : decode cX9_init 30 = .ok (.invokespecial 17, 3) := by decide +kernel
theorem dX9_init_33 : decode cX9_init 33 = .ok (.aastore, 1) := by decide +kernel
theorem dX9_init_34 : decode cX9_init 34 = .ok (.iinc 1 1, 3) := by decide +kernel
theorem dX9_init_37 : decode cX9_init 37 = .ok (.goto (-22), 3) := by decide +kernel
theorem dX9_init_40 : decode cX9_init 40 = .ok (.aload_n 0, 1) := by decide +kernel
theorem dX9_init_41 : decode cX9_init 41 = .ok (.iconst 1, 1) := by decide +kernel
theorem dX9_init_42 : decode cX9_init 42 = .ok (.putfield 18, 3) := by decide +kernel
theorem dX9_init_45 : decode cX9_init 45 = .ok (.return_, 1) := by decide +kernel
theorem dX9_copyFrom_0 : decode cX9_copyFrom 0 = .ok (.iconst 0, 1) := by decide +kernel
theorem dX9_copyFrom_1 : decode cX9_copyFrom 1 = .ok (.istore_n 2, 1) := by decide +kernel
theorem dX9_copyFrom_2 : decode cX9_copyFrom 2 = .ok (.iload_n 2, 1) := by decide +kernel
theorem dX9_copyFrom_3 : decode cX9_copyFrom 3 = .ok (.bipush 8, 2) := by decide +kernel
theorem dX9_copyFrom_5 : decode cX9_copyFrom 5 = .ok (.if_icmp .ge 24, 3) := by decide +kernel
theorem dX9_copyFrom_8 : decode cX9_copyFrom 8 = .ok (.aload_n 0, 1) := by decide +kernel
theorem dX9_copyFrom_9 : decode cX9_copyFrom 9 = .ok (.getfield 11, 3) := by decide +kernel
theorem dX9_copyFrom_12 : decode cX9_copyFrom 12 = .ok (.iload_n 2, 1) := by decide +kernel
theorem dX9_copyFrom_13 : decode cX9_copyFrom 13 = .ok (.aaload, 1) := by decide +kernel
theorem dX9_copyFrom_14 : decode cX9_copyFrom 14 = .ok (.aload_n 1, 1) := by decide +kernel
theorem dX9_copyFrom_15 : decode cX9_copyFrom 15 = .ok (.getfield 11, 3) := by decide +kernel
theorem dX9_copyFrom_18 : decode cX9_copyFrom 18 = .ok (.iload_n 2, 1) := by decide +kernel
theorem dX9_copyFrom_19 : decode cX9_copyFrom 19 = .ok (.aaload, 1) := by decide +kernel
theorem dX9_copyFrom_20 : decode cX9_copyFrom 20 = .ok (.invokevirtual 22, 3) := by decide +kernel
theorem dX9_copyFrom_23 : decode cX9_copyFrom 23 = .ok (.iinc 2 1, 3) := by decide +kernel
theorem dX9_copyFrom_26 : decode cX9_copyFrom 26 = .ok (.goto (-24), 3) := by decide +kernel
theorem dX9_copyFrom_29 : decode cX9_copyFrom 29 = .ok (.aload_n 0, 1) := by decide +kernel
theorem dX9_copyFrom_30 : decode cX9_copyFrom 30 = .ok (.aload_n 1, 1) := by decide +kernel
theorem dX9_copyFrom_31 : decode cX9_copyFrom 31 = .ok (.getfield 26, 3) := by decide +kernel
theorem dX9_copyFrom_34 : decode cX9_copyFrom 34 = .ok (.putfield 26, 3) := by decide +kernel
theorem dX9_copyFrom_37 : decode cX9_copyFrom 37 = .ok (.aload_n 0, 1) := by decide +kernel
theorem dX9_copyFrom_38 : decode cX9_copyFrom 38 = .ok (.aload_n 1, 1) := by decide +kernel
theorem dX9_copyFrom_39 : decode cX9_copyFrom 39 = .ok (.getfield 18, 3) := by decide +kernel
theorem dX9_copyFrom_42 : decode cX9_copyFrom 42 = .ok (.putfield 18, 3) := by decide +kernel
theorem dX9_copyFrom_45 : decode cX9_copyFrom 45 = .ok (.return_, 1) := by decide +kernel
theorem dX9_isTold_0 : decode cX9_isTold 0 = .ok (.iload_n 1, 1) := by decide +kernel
theorem dX9_isTold_1 : decode cX9_isTold 1 = .ok (.invokestatic 29, 3) := by decide +kernel
theorem dX9_isTold_4 : decode cX9_isTold 4 = .ok (.ifCond .eq 19, 3) := by decide +kernel
theorem dX9_isTold_7 : decode cX9_isTold 7 = .ok (.aload_n 0, 1) := by decide +kernel
theorem dX9_isTold_8 : decode cX9_isTold 8 = .ok (.getfield 11, 3) := by decide +kernel
theorem dX9_isTold_11 : decode cX9_isTold 11 = .ok (.iload_n 1, 1) := by decide +kernel
theorem dX9_isTold_12 : decode cX9_isTold 12 = .ok (.aaload, 1) := by decide +kernel
theorem dX9_isTold_13 : decode cX9_isTold 13 = .ok (.getfield 33, 3) := by decide +kernel
theorem dX9_isTold_16 : decode cX9_isTold 16 = .ok (.ifCond .eq 7, 3) := by decide +kernel
theorem dX9_isTold_19 : decode cX9_isTold 19 = .ok (.iconst 1, 1) := by decide +kernel
theorem dX9_isTold_20 : decode cX9_isTold 20 = .ok (.goto 4, 3) := by decide +kernel
theorem dX9_isTold_23 : decode cX9_isTold 23 = .ok (.iconst 0, 1) := by decide +kernel
theorem dX9_isTold_24 : decode cX9_isTold 24 = .ok (.ireturn, 1) := by decide +kernel
theorem dX9_toldBits_0 : decode cX9_toldBits 0 = .ok (.iconst 0, 1) := by decide +kernel
theorem dX9_toldBits_1 : decode cX9_toldBits 1 = .ok (.istore_n 1, 1) := by decide +kernel
theorem dX9_toldBits_2 : decode cX9_toldBits 2 = .ok (.iconst 0, 1) := by decide +kernel
theorem dX9_toldBits_3 : decode cX9_toldBits 3 = .ok (.istore_n 2, 1) := by decide +kernel
theorem dX9_toldBits_4 : decode cX9_toldBits 4 = .ok (.iload_n 2, 1) := by decide +kernel
theorem dX9_toldBits_5 : decode cX9_toldBits 5 = .ok (.bipush 8, 2) := by decide +kernel
theorem dX9_toldBits_7 : decode cX9_toldBits 7 = .ok (.if_icmp .ge 27, 3) := by decide +kernel
theorem dX9_toldBits_10 : decode cX9_toldBits 10 = .ok (.aload_n 0, 1) := by decide +kernel
theorem dX9_toldBits_11 : decode cX9_toldBits 11 = .ok (.getfield 11, 3) := by decide +kernel
theorem dX9_toldBits_14 : decode cX9_toldBits 14 = .ok (.iload_n 2, 1) := by decide +kernel
theorem dX9_toldBits_15 : decode cX9_toldBits 15 = .ok (.aaload, 1) := by decide +kernel
theorem dX9_toldBits_16 : decode cX9_toldBits 16 = .ok (.getfield 33, 3) := by decide +kernel
theorem dX9_toldBits_19 : decode cX9_toldBits 19 = .ok (.ifCond .eq 9, 3) := by decide +kernel
theorem dX9_toldBits_22 : decode cX9_toldBits 22 = .ok (.iload_n 1, 1) := by decide +kernel
theorem dX9_toldBits_23 : decode cX9_toldBits 23 = .ok (.iconst 1, 1) := by decide +kernel
theorem dX9_toldBits_24 : decode cX9_toldBits 24 = .ok (.iload_n 2, 1) := by decide +kernel
theorem dX9_toldBits_25 : decode cX9_toldBits 25 = .ok (.ishl, 1) := by decide +kernel
theorem dX9_toldBits_26 : decode cX9_toldBits 26 = .ok (.ior, 1) := by decide +kernel
theorem dX9_toldBits_27 : decode cX9_toldBits 27 = .ok (.istore_n 1, 1) := by decide +kernel
theorem dX9_toldBits_28 : decode cX9_toldBits 28 = .ok (.iinc 2 1, 3) := by decide +kernel
theorem dX9_toldBits_31 : decode cX9_toldBits 31 = .ok (.goto (-27), 3) := by decide +kernel
theorem dX9_toldBits_34 : decode cX9_toldBits 34 = .ok (.iload_n 1, 1) := by decide +kernel
theorem dX9_toldBits_35 : decode cX9_toldBits 35 = .ok (.ireturn, 1) := by decide +kernel
theorem dX9_waitingBits_0 : decode cX9_waitingBits 0 = .ok (.iconst 0, 1) := by decide +kernel
theorem dX9_waitingBits_1 : decode cX9_waitingBits 1 = .ok (.istore_n 1, 1) := by decide +kernel
theorem dX9_waitingBits_2 : decode cX9_waitingBits 2 = .ok (.iconst 0, 1) := by decide +kernel
theorem dX9_waitingBits_3 : decode cX9_waitingBits 3 = .ok (.istore_n 2, 1) := by decide +kernel
theorem dX9_waitingBits_4 : decode cX9_waitingBits 4 = .ok (.iload_n 2, 1) := by decide +kernel
theorem dX9_waitingBits_5 : decode cX9_waitingBits 5 = .ok (.bipush 8, 2) := by decide +kernel
theorem dX9_waitingBits_7 : decode cX9_waitingBits 7 = .ok (.if_icmp .ge 39, 3) := by decide +kernel
theorem dX9_waitingBits_10 : decode cX9_waitingBits 10 = .ok (.aload_n 0, 1) := by decide +kernel
theorem dX9_waitingBits_11 : decode cX9_waitingBits 11 = .ok (.getfield 11, 3) := by decide +kernel
theorem dX9_waitingBits_14 : decode cX9_waitingBits 14 = .ok (.iload_n 2, 1) := by decide +kernel
theorem dX9_waitingBits_15 : decode cX9_waitingBits 15 = .ok (.aaload, 1) := by decide +kernel
theorem dX9_waitingBits_16 : decode cX9_waitingBits 16 = .ok (.getfield 33, 3) := by decide +kernel
theorem dX9_waitingBits_19 : decode cX9_waitingBits 19 = .ok (.ifCond .eq 21, 3) := by decide +kernel
theorem dX9_waitingBits_22 : decode cX9_waitingBits 22 = .ok (.aload_n 0, 1) := by decide +kernel
theorem dX9_waitingBits_23 : decode cX9_waitingBits 23 = .ok (.getfield 11, 3) := by decide +kernel
theorem dX9_waitingBits_26 : decode cX9_waitingBits 26 = .ok (.iload_n 2, 1) := by decide +kernel
theorem dX9_waitingBits_27 : decode cX9_waitingBits 27 = .ok (.aaload, 1) := by decide +kernel
theorem dX9_waitingBits_28 : decode cX9_waitingBits 28 = .ok (.getfield 37, 3) := by decide +kernel
theorem dX9_waitingBits_31 : decode cX9_waitingBits 31 = .ok (.ifCond .eq 9, 3) := by decide +kernel
theorem dX9_waitingBits_34 : decode cX9_waitingBits 34 = .ok (.iload_n 1, 1) := by decide +kernel
theorem dX9_waitingBits_35 : decode cX9_waitingBits 35 = .ok (.iconst 1, 1) := by decide +kernel
theorem dX9_waitingBits_36 : decode cX9_waitingBits 36 = .ok (.iload_n 2, 1) := by decide +kernel
theorem dX9_waitingBits_37 : decode cX9_waitingBits 37 = .ok (.ishl, 1) := by decide +kernel
theorem dX9_waitingBits_38 : decode cX9_waitingBits 38 = .ok (.ior, 1) := by decide +kernel
theorem dX9_waitingBits_39 : decode cX9_waitingBits 39 = .ok (.istore_n 1, 1) := by decide +kernel
theorem dX9_waitingBits_40 : decode cX9_waitingBits 40 = .ok (.iinc 2 1, 3) := by decide +kernel
theorem dX9_waitingBits_43 : decode cX9_waitingBits 43 = .ok (.goto (-39), 3) := by decide +kernel
theorem dX9_waitingBits_46 : decode cX9_waitingBits 46 = .ok (.iload_n 1, 1) := by decide +kernel
theorem dX9_waitingBits_47 : decode cX9_waitingBits 47 = .ok (.ireturn, 1) := by decide +kernel
theorem dX9_heardBits_0 : decode cX9_heardBits 0 = .ok (.iconst 0, 1) := by decide +kernel
theorem dX9_heardBits_1 : decode cX9_heardBits 1 = .ok (.istore_n 3, 1) := by decide +kernel
theorem dX9_heardBits_2 : decode cX9_heardBits 2 = .ok (.iconst 0, 1) := by decide +kernel
theorem dX9_heardBits_3 : decode cX9_heardBits 3 = .ok (.istore 4, 2) := by decide +kernel
theorem dX9_heardBits_5 : decode cX9_heardBits 5 = .ok (.iload 4, 2) := by decide +kernel
theorem dX9_heardBits_7 : decode cX9_heardBits 7 = .ok (.bipush 8, 2) := by decide +kernel
theorem dX9_heardBits_9 : decode cX9_heardBits 9 = .ok (.if_icmp .ge 49, 3) := by decide +kernel
theorem dX9_heardBits_12 : decode cX9_heardBits 12 = .ok (.iload_n 1, 1) := by decide +kernel
theorem dX9_heardBits_13 : decode cX9_heardBits 13 = .ok (.invokestatic 29, 3) := by decide +kernel
theorem dX9_heardBits_16 : decode cX9_heardBits 16 = .ok (.ifCond .eq 42, 3) := by decide +kernel
theorem dX9_heardBits_19 : decode cX9_heardBits 19 = .ok (.iload 4, 2) := by decide +kernel
theorem dX9_heardBits_21 : decode cX9_heardBits 21 = .ok (.iload_n 1, 1) := by decide +kernel
theorem dX9_heardBits_22 : decode cX9_heardBits 22 = .ok (.if_icmp .eq 30, 3) := by decide +kernel
theorem dX9_heardBits_25 : decode cX9_heardBits 25 = .ok (.aload_n 0, 1) := by decide +kernel
theorem dX9_heardBits_26 : decode cX9_heardBits 26 = .ok (.getfield 11, 3) := by decide +kernel
theorem dX9_heardBits_29 : decode cX9_heardBits 29 = .ok (.iload_n 1, 1) := by decide +kernel
theorem dX9_heardBits_30 : decode cX9_heardBits 30 = .ok (.aaload, 1) := by decide +kernel
theorem dX9_heardBits_31 : decode cX9_heardBits 31 = .ok (.aload_n 0, 1) := by decide +kernel
theorem dX9_heardBits_32 : decode cX9_heardBits 32 = .ok (.getfield 11, 3) := by decide +kernel
theorem dX9_heardBits_35 : decode cX9_heardBits 35 = .ok (.iload 4, 2) := by decide +kernel
theorem dX9_heardBits_37 : decode cX9_heardBits 37 = .ok (.aaload, 1) := by decide +kernel
theorem dX9_heardBits_38 : decode cX9_heardBits 38 = .ok (.iload_n 2, 1) := by decide +kernel
theorem dX9_heardBits_39 : decode cX9_heardBits 39 = .ok (.invokevirtual 40, 3) := by decide +kernel
theorem dX9_heardBits_42 : decode cX9_heardBits 42 = .ok (.ifCond .eq 10, 3) := by decide +kernel
theorem dX9_heardBits_45 : decode cX9_heardBits 45 = .ok (.iload_n 3, 1) := by decide +kernel
theorem dX9_heardBits_46 : decode cX9_heardBits 46 = .ok (.iconst 1, 1) := by decide +kernel
theorem dX9_heardBits_47 : decode cX9_heardBits 47 = .ok (.iload 4, 2) := by decide +kernel
theorem dX9_heardBits_49 : decode cX9_heardBits 49 = .ok (.ishl, 1) := by decide +kernel
theorem dX9_heardBits_50 : decode cX9_heardBits 50 = .ok (.ior, 1) := by decide +kernel
theorem dX9_heardBits_51 : decode cX9_heardBits 51 = .ok (.istore_n 3, 1) := by decide +kernel
theorem dX9_heardBits_52 : decode cX9_heardBits 52 = .ok (.iinc 4 1, 3) := by decide +kernel
theorem dX9_heardBits_55 : decode cX9_heardBits 55 = .ok (.goto (-50), 3) := by decide +kernel
theorem dX9_heardBits_58 : decode cX9_heardBits 58 = .ok (.iload_n 3, 1) := by decide +kernel
theorem dX9_heardBits_59 : decode cX9_heardBits 59 = .ok (.ireturn, 1) := by decide +kernel
theorem dX9_sitsAhead_0 : decode cX9_sitsAhead 0 = .ok (.iload_n 1, 1) := by decide +kernel
theorem dX9_sitsAhead_1 : decode cX9_sitsAhead 1 = .ok (.invokestatic 29, 3) := by decide +kernel
theorem dX9_sitsAhead_4 : decode cX9_sitsAhead 4 = .ok (.ifCond .eq 10, 3) := by decide +kernel
theorem dX9_sitsAhead_7 : decode cX9_sitsAhead 7 = .ok (.iload_n 2, 1) := by decide +kernel
theorem dX9_sitsAhead_8 : decode cX9_sitsAhead 8 = .ok (.invokestatic 29, 3) := by decide +kernel
theorem dX9_sitsAhead_11 : decode cX9_sitsAhead 11 = .ok (.ifCond .ne 5, 3) := by decide +kernel
theorem dX9_sitsAhead_14 : decode cX9_sitsAhead 14 = .ok (.iconst 0, 1) := by decide +kernel
theorem dX9_sitsAhead_15 : decode cX9_sitsAhead 15 = .ok (.ireturn, 1) := by decide +kernel
theorem dX9_sitsAhead_16 : decode cX9_sitsAhead 16 = .ok (.aload_n 0, 1) := by decide +kernel
theorem dX9_sitsAhead_17 : decode cX9_sitsAhead 17 = .ok (.getfield 11, 3) := by decide +kernel
theorem dX9_sitsAhead_20 : decode cX9_sitsAhead 20 = .ok (.iload_n 2, 1) := by decide +kernel
theorem dX9_sitsAhead_21 : decode cX9_sitsAhead 21 = .ok (.aaload, 1) := by decide +kernel
theorem dX9_sitsAhead_22 : decode cX9_sitsAhead 22 = .ok (.getfield 44, 3) := by decide +kernel
theorem dX9_sitsAhead_25 : decode cX9_sitsAhead 25 = .ok (.aload_n 0, 1) := by decide +kernel
theorem dX9_sitsAhead_26 : decode cX9_sitsAhead 26 = .ok (.getfield 11, 3) := by decide +kernel
theorem dX9_sitsAhead_29 : decode cX9_sitsAhead 29 = .ok (.iload_n 1, 1) := by decide +kernel
theorem dX9_sitsAhead_30 : decode cX9_sitsAhead 30 = .ok (.aaload, 1) := by decide +kernel
theorem dX9_sitsAhead_31 : decode cX9_sitsAhead 31 = .ok (.getfield 44, 3) := by decide +kernel
theorem dX9_sitsAhead_34 : decode cX9_sitsAhead 34 = .ok (.isub, 1) := by decide +kernel
theorem dX9_sitsAhead_35 : decode cX9_sitsAhead 35 = .ok (.istore_n 3, 1) := by decide +kernel
theorem dX9_sitsAhead_36 : decode cX9_sitsAhead 36 = .ok (.iload_n 3, 1) := by decide +kernel
theorem dX9_sitsAhead_37 : decode cX9_sitsAhead 37 = .ok (.ifCond .gt 12, 3) := by decide +kernel
theorem dX9_sitsAhead_40 : decode cX9_sitsAhead 40 = .ok (.iload_n 3, 1) := by decide +kernel
theorem dX9_sitsAhead_41 : decode cX9_sitsAhead 41 = .ok (.ifCond .ne 12, 3) := by decide +kernel
theorem dX9_sitsAhead_44 : decode cX9_sitsAhead 44 = .ok (.iload_n 1, 1) := by decide +kernel
theorem dX9_sitsAhead_45 : decode cX9_sitsAhead 45 = .ok (.iload_n 2, 1) := by decide +kernel
theorem dX9_sitsAhead_46 : decode cX9_sitsAhead 46 = .ok (.if_icmp .ge 7, 3) := by decide +kernel
theorem dX9_sitsAhead_49 : decode cX9_sitsAhead 49 = .ok (.iconst 1, 1) := by decide +kernel
theorem dX9_sitsAhead_50 : decode cX9_sitsAhead 50 = .ok (.goto 4, 3) := by decide +kernel
theorem dX9_sitsAhead_53 : decode cX9_sitsAhead 53 = .ok (.iconst 0, 1) := by decide +kernel
theorem dX9_sitsAhead_54 : decode cX9_sitsAhead 54 = .ok (.ireturn, 1) := by decide +kernel
theorem dX9_draw_0 : decode cX9_draw 0 = .ok (.aload_n 0, 1) := by decide +kernel
theorem dX9_draw_1 : decode cX9_draw 1 = .ok (.sipush 25173, 3) := by decide +kernel
theorem dX9_draw_4 : decode cX9_draw 4 = .ok (.aload_n 0, 1) := by decide +kernel
theorem dX9_draw_5 : decode cX9_draw 5 = .ok (.getfield 18, 3) := by decide +kernel
theorem dX9_draw_8 : decode cX9_draw 8 = .ok (.imul, 1) := by decide +kernel
theorem dX9_draw_9 : decode cX9_draw 9 = .ok (.sipush 13849, 3) := by decide +kernel
theorem dX9_draw_12 : decode cX9_draw 12 = .ok (.iadd, 1) := by decide +kernel
theorem dX9_draw_13 : decode cX9_draw 13 = .ok (.ldc 47, 2) := by decide +kernel
theorem dX9_draw_15 : decode cX9_draw 15 = .ok (.irem, 1) := by decide +kernel
theorem dX9_draw_16 : decode cX9_draw 16 = .ok (.putfield 18, 3) := by decide +kernel
theorem dX9_draw_19 : decode cX9_draw 19 = .ok (.aload_n 0, 1) := by decide +kernel
theorem dX9_draw_20 : decode cX9_draw 20 = .ok (.getfield 18, 3) := by decide +kernel
theorem dX9_draw_23 : decode cX9_draw 23 = .ok (.bipush 10, 2) := by decide +kernel
theorem dX9_draw_25 : decode cX9_draw 25 = .ok (.irem, 1) := by decide +kernel
theorem dX9_draw_26 : decode cX9_draw 26 = .ok (.ireturn, 1) := by decide +kernel
theorem dX10_init_0 : decode cX10_init 0 = .ok (.aload_n 0, 1) := by decide +kernel
theorem dX10_init_1 : decode cX10_init 1 = .ok (.invokespecial 1, 3) := by decide +kernel
theorem dX10_init_4 : decode cX10_init 4 = .ok (.aload_n 0, 1) := by decide +kernel
theorem dX10_init_5 : decode cX10_init 5 = .ok (.sipush 260, 3) := by decide +kernel
theorem dX10_init_8 : decode cX10_init 8 = .ok (.newarray .int, 2) := by decide +kernel
theorem dX10_init_10 : decode cX10_init 10 = .ok (.putfield 9, 3) := by decide +kernel
theorem dX10_init_13 : decode cX10_init 13 = .ok (.return_, 1) := by decide +kernel
theorem dX10_length_0 : decode cX10_length 0 = .ok (.aload_n 0, 1) := by decide +kernel
theorem dX10_length_1 : decode cX10_length 1 = .ok (.getfield 13, 3) := by decide +kernel
theorem dX10_length_4 : decode cX10_length 4 = .ok (.ireturn, 1) := by decide +kernel
theorem dX10_hasRoomFor_0 : decode cX10_hasRoomFor 0 = .ok (.aload_n 0, 1) := by decide +kernel
theorem dX10_hasRoomFor_1 : decode cX10_hasRoomFor 1 = .ok (.getfield 13, 3) := by decide +kernel
theorem dX10_hasRoomFor_4 : decode cX10_hasRoomFor 4 = .ok (.iload_n 1, 1) := by decide +kernel
theorem dX10_hasRoomFor_5 : decode cX10_hasRoomFor 5 = .ok (.iadd, 1) := by decide +kernel
theorem dX10_hasRoomFor_6 : decode cX10_hasRoomFor 6 = .ok (.sipush 260, 3) := by decide +kernel
theorem dX10_hasRoomFor_9 : decode cX10_hasRoomFor 9 = .ok (.if_icmp .gt 7, 3) := by decide +kernel
theorem dX10_hasRoomFor_12 : decode cX10_hasRoomFor 12 = .ok (.iconst 1, 1) := by decide +kernel
theorem dX10_hasRoomFor_13 : decode cX10_hasRoomFor 13 = .ok (.goto 4, 3) := by decide +kernel
theorem dX10_hasRoomFor_16 : decode cX10_hasRoomFor 16 = .ok (.iconst 0, 1) := by decide +kernel
theorem dX10_hasRoomFor_17 : decode cX10_hasRoomFor 17 = .ok (.ireturn, 1) := by decide +kernel
theorem dX10_put_0 : decode cX10_put 0 = .ok (.aload_n 0, 1) := by decide +kernel
theorem dX10_put_1 : decode cX10_put 1 = .ok (.iconst 4, 1) := by decide +kernel
theorem dX10_put_2 : decode cX10_put 2 = .ok (.invokevirtual 17, 3) := by decide +kernel
theorem dX10_put_5 : decode cX10_put 5 = .ok (.ifCond .ne 4, 3) := by decide +kernel
theorem dX10_put_8 : decode cX10_put 8 = .ok (.return_, 1) := by decide +kernel
theorem dX10_put_9 : decode cX10_put 9 = .ok (.bipush 24, 2) := by decide +kernel
theorem dX10_put_11 : decode cX10_put 11 = .ok (.istore_n 2, 1) := by decide +kernel
theorem dX10_put_12 : decode cX10_put 12 = .ok (.iload_n 2, 1) := by decide +kernel
theorem dX10_put_13 : decode cX10_put 13 = .ok (.ifCond .lt 35, 3) := by decide +kernel
theorem dX10_put_16 : decode cX10_put 16 = .ok (.aload_n 0, 1) := by decide +kernel
theorem dX10_put_17 : decode cX10_put 17 = .ok (.getfield 9, 3) := by decide +kernel
theorem dX10_put_20 : decode cX10_put 20 = .ok (.aload_n 0, 1) := by decide +kernel
theorem dX10_put_21 : decode cX10_put 21 = .ok (.getfield 13, 3) := by decide +kernel
theorem dX10_put_24 : decode cX10_put 24 = .ok (.iload_n 1, 1) := by decide +kernel
theorem dX10_put_25 : decode cX10_put 25 = .ok (.iload_n 2, 1) := by decide +kernel
theorem dX10_put_26 : decode cX10_put 26 = .ok (.ishr, 1) := by decide +kernel
theorem dX10_put_27 : decode cX10_put 27 = .ok (.sipush 255, 3) := by decide +kernel
theorem dX10_put_30 : decode cX10_put 30 = .ok (.iand, 1) := by decide +kernel
theorem dX10_put_31 : decode cX10_put 31 = .ok (.iastore, 1) := by decide +kernel
theorem dX10_put_32 : decode cX10_put 32 = .ok (.aload_n 0, 1) := by decide +kernel
theorem dX10_put_33 : decode cX10_put 33 = .ok (.dup, 1) := by decide +kernel
theorem dX10_put_34 : decode cX10_put 34 = .ok (.getfield 13, 3) := by decide +kernel
theorem dX10_put_37 : decode cX10_put 37 = .ok (.iconst 1, 1) := by decide +kernel
theorem dX10_put_38 : decode cX10_put 38 = .ok (.iadd, 1) := by decide +kernel
theorem dX10_put_39 : decode cX10_put 39 = .ok (.putfield 13, 3) := by decide +kernel
theorem dX10_put_42 : decode cX10_put 42 = .ok (.iinc 2 (-8), 3) := by decide +kernel
theorem dX10_put_45 : decode cX10_put 45 = .ok (.goto (-33), 3) := by decide +kernel
theorem dX10_put_48 : decode cX10_put 48 = .ok (.return_, 1) := by decide +kernel
theorem dX10_clear_0 : decode cX10_clear 0 = .ok (.aload_n 0, 1) := by decide +kernel
theorem dX10_clear_1 : decode cX10_clear 1 = .ok (.iconst 0, 1) := by decide +kernel
theorem dX10_clear_2 : decode cX10_clear 2 = .ok (.putfield 13, 3) := by decide +kernel
theorem dX10_clear_5 : decode cX10_clear 5 = .ok (.return_, 1) := by decide +kernel
theorem dX10_byteAt_0 : decode cX10_byteAt 0 = .ok (.iload_n 1, 1) := by decide +kernel
theorem dX10_byteAt_1 : decode cX10_byteAt 1 = .ok (.ifCond .lt 20, 3) := by decide +kernel
theorem dX10_byteAt_4 : decode cX10_byteAt 4 = .ok (.iload_n 1, 1) := by decide +kernel
theorem dX10_byteAt_5 : decode cX10_byteAt 5 = .ok (.aload_n 0, 1) := by decide +kernel
theorem dX10_byteAt_6 : decode cX10_byteAt 6 = .ok (.getfield 13, 3) := by decide +kernel
theorem dX10_byteAt_9 : decode cX10_byteAt 9 = .ok (.if_icmp .ge 12, 3) := by decide +kernel
theorem dX10_byteAt_12 : decode cX10_byteAt 12 = .ok (.aload_n 0, 1) := by decide +kernel
theorem dX10_byteAt_13 : decode cX10_byteAt 13 = .ok (.getfield 9, 3) := by decide +kernel
theorem dX10_byteAt_16 : decode cX10_byteAt 16 = .ok (.iload_n 1, 1) := by decide +kernel
theorem dX10_byteAt_17 : decode cX10_byteAt 17 = .ok (.iaload, 1) := by decide +kernel
theorem dX10_byteAt_18 : decode cX10_byteAt 18 = .ok (.goto 4, 3) := by decide +kernel
theorem dX10_byteAt_21 : decode cX10_byteAt 21 = .ok (.iconst (-1), 1) := by decide +kernel
theorem dX10_byteAt_22 : decode cX10_byteAt 22 = .ok (.ireturn, 1) := by decide +kernel
theorem dX10_open_0 : decode cX10_open 0 = .ok (.aload_n 0, 1) := by decide +kernel
theorem dX10_open_1 : decode cX10_open 1 = .ok (.iconst 0, 1) := by decide +kernel
theorem dX10_open_2 : decode cX10_open 2 = .ok (.putfield 21, 3) := by decide +kernel
theorem dX10_open_5 : decode cX10_open 5 = .ok (.aload_n 0, 1) := by decide +kernel
theorem dX10_open_6 : decode cX10_open 6 = .ok (.iload_n 1, 1) := by decide +kernel
theorem dX10_open_7 : decode cX10_open 7 = .ok (.aload_n 0, 1) := by decide +kernel
theorem dX10_open_8 : decode cX10_open 8 = .ok (.getfield 13, 3) := by decide +kernel
theorem dX10_open_11 : decode cX10_open 11 = .ok (.invokestatic 24, 3) := by decide +kernel
theorem dX10_open_14 : decode cX10_open 14 = .ok (.putfield 30, 3) := by decide +kernel
theorem dX10_open_17 : decode cX10_open 17 = .ok (.aload_n 0, 1) := by decide +kernel
theorem dX10_open_18 : decode cX10_open 18 = .ok (.iconst 0, 1) := by decide +kernel
theorem dX10_open_19 : decode cX10_open 19 = .ok (.putfield 33, 3) := by decide +kernel
theorem dX10_open_22 : decode cX10_open 22 = .ok (.return_, 1) := by decide +kernel
theorem dX10_place_0 : decode cX10_place 0 = .ok (.aload_n 0, 1) := by decide +kernel
theorem dX10_place_1 : decode cX10_place 1 = .ok (.getfield 21, 3) := by decide +kernel
theorem dX10_place_4 : decode cX10_place 4 = .ok (.ireturn, 1) := by decide +kernel
theorem dX10_sign_0 : decode cX10_sign 0 = .ok (.aload_n 0, 1) := by decide +kernel
theorem dX10_sign_1 : decode cX10_sign 1 = .ok (.getfield 21, 3) := by decide +kernel
theorem dX10_sign_4 : decode cX10_sign 4 = .ok (.ifCond .lt 26, 3) := by decide +kernel
theorem dX10_sign_7 : decode cX10_sign 7 = .ok (.aload_n 0, 1) := by decide +kernel
theorem dX10_sign_8 : decode cX10_sign 8 = .ok (.getfield 21, 3) := by decide +kernel
theorem dX10_sign_11 : decode cX10_sign 11 = .ok (.aload_n 0, 1) := by decide +kernel
theorem dX10_sign_12 : decode cX10_sign 12 = .ok (.getfield 30, 3) := by decide +kernel
theorem dX10_sign_15 : decode cX10_sign 15 = .ok (.if_icmp .ge 15, 3) := by decide +kernel
theorem dX10_sign_18 : decode cX10_sign 18 = .ok (.aload_n 0, 1) := by decide +kernel
theorem dX10_sign_19 : decode cX10_sign 19 = .ok (.getfield 9, 3) := by decide +kernel
theorem dX10_sign_22 : decode cX10_sign 22 = .ok (.aload_n 0, 1) := by decide +kernel
theorem dX10_sign_23 : decode cX10_sign 23 = .ok (.getfield 21, 3) := by decide +kernel
theorem dX10_sign_26 : decode cX10_sign 26 = .ok (.iaload, 1) := by decide +kernel
theorem dX10_sign_27 : decode cX10_sign 27 = .ok (.goto 4, 3) := by decide +kernel
theorem dX10_sign_30 : decode cX10_sign 30 = .ok (.iconst (-1), 1) := by decide +kernel
theorem dX10_sign_31 : decode cX10_sign 31 = .ok (.ireturn, 1) := by decide +kernel
theorem dX10_pass_0 : decode cX10_pass 0 = .ok (.aload_n 0, 1) := by decide +kernel
theorem dX10_pass_1 : decode cX10_pass 1 = .ok (.dup, 1) := by decide +kernel
theorem dX10_pass_2 : decode cX10_pass 2 = .ok (.getfield 21, 3) := by decide +kernel
theorem dX10_pass_5 : decode cX10_pass 5 = .ok (.iconst 1, 1) := by decide +kernel
theorem dX10_pass_6 : decode cX10_pass 6 = .ok (.iadd, 1) := by decide +kernel
theorem dX10_pass_7 : decode cX10_pass 7 = .ok (.putfield 21, 3) := by decide +kernel
theorem dX10_pass_10 : decode cX10_pass 10 = .ok (.return_, 1) := by decide +kernel
theorem dX10_passes_0 : decode cX10_passes 0 = .ok (.aload_n 0, 1) := by decide +kernel
theorem dX10_passes_1 : decode cX10_passes 1 = .ok (.invokevirtual 36, 3) := by decide +kernel
theorem dX10_passes_4 : decode cX10_passes 4 = .ok (.iload_n 1, 1) := by decide +kernel
theorem dX10_passes_5 : decode cX10_passes 5 = .ok (.if_icmp .eq 13, 3) := by decide +kernel
theorem dX10_passes_8 : decode cX10_passes 8 = .ok (.aload_n 0, 1) := by decide +kernel
theorem dX10_passes_9 : decode cX10_passes 9 = .ok (.iconst 1, 1) := by decide +kernel
theorem dX10_passes_10 : decode cX10_passes 10 = .ok (.aload_n 0, 1) := by decide +kernel
theorem dX10_passes_11 : decode cX10_passes 11 = .ok (.getfield 21, 3) := by decide +kernel
theorem dX10_passes_14 : decode cX10_passes 14 = .ok (.invokevirtual 40, 3) := by decide +kernel
theorem dX10_passes_17 : decode cX10_passes 17 = .ok (.ireturn, 1) := by decide +kernel
theorem dX10_passes_18 : decode cX10_passes 18 = .ok (.aload_n 0, 1) := by decide +kernel
theorem dX10_passes_19 : decode cX10_passes 19 = .ok (.dup, 1) := by decide +kernel
theorem dX10_passes_20 : decode cX10_passes 20 = .ok (.getfield 21, 3) := by decide +kernel
theorem dX10_passes_23 : decode cX10_passes 23 = .ok (.iconst 1, 1) := by decide +kernel
theorem dX10_passes_24 : decode cX10_passes 24 = .ok (.iadd, 1) := by decide +kernel
theorem dX10_passes_25 : decode cX10_passes 25 = .ok (.putfield 21, 3) := by decide +kernel
theorem dX10_passes_28 : decode cX10_passes 28 = .ok (.iconst 1, 1) := by decide +kernel
theorem dX10_passes_29 : decode cX10_passes 29 = .ok (.ireturn, 1) := by decide +kernel
theorem dX10_fails_0 : decode cX10_fails 0 = .ok (.aload_n 0, 1) := by decide +kernel
theorem dX10_fails_1 : decode cX10_fails 1 = .ok (.sipush (-1000), 3) := by decide +kernel
theorem dX10_fails_4 : decode cX10_fails 4 = .ok (.iload_n 1, 1) := by decide +kernel
theorem dX10_fails_5 : decode cX10_fails 5 = .ok (.imul, 1) := by decide +kernel
theorem dX10_fails_6 : decode cX10_fails 6 = .ok (.iload_n 2, 1) := by decide +kernel
theorem dX10_fails_7 : decode cX10_fails 7 = .ok (.isub, 1) := by decide +kernel
theorem dX10_fails_8 : decode cX10_fails 8 = .ok (.putfield 33, 3) := by decide +kernel
theorem dX10_fails_11 : decode cX10_fails 11 = .ok (.iconst 0, 1) := by decide +kernel
theorem dX10_fails_12 : decode cX10_fails 12 = .ok (.ireturn, 1) := by decide +kernel
theorem dX10_answer_0 : decode cX10_answer 0 = .ok (.aload_n 0, 1) := by decide +kernel
theorem dX10_answer_1 : decode cX10_answer 1 = .ok (.getfield 33, 3) := by decide +kernel
theorem dX10_answer_4 : decode cX10_answer 4 = .ok (.ifCond .eq 10, 3) := by decide +kernel
theorem dX10_answer_7 : decode cX10_answer 7 = .ok (.aload_n 0, 1) := by decide +kernel
theorem dX10_answer_8 : decode cX10_answer 8 = .ok (.getfield 33, 3) := by decide +kernel
theorem dX10_answer_11 : decode cX10_answer 11 = .ok (.goto 4, 3) := by decide +kernel
theorem dX10_answer_14 : decode cX10_answer 14 = .ok (.iload_n 1, 1) := by decide +kernel
theorem dX10_answer_15 : decode cX10_answer 15 = .ok (.ireturn, 1) := by decide +kernel
theorem dX11_init_0 : decode cX11_init 0 = .ok (.aload_n 0, 1) := by decide +kernel
theorem dX11_init_1 : decode cX11_init 1 = .ok (.invokespecial 1, 3) := by decide +kernel
theorem dX11_init_4 : decode cX11_init 4 = .ok (.aload_n 0, 1) := by decide +kernel
theorem dX11_init_5 : decode cX11_init 5 = .ok (.bipush 60, 2) := by decide +kernel
theorem dX11_init_7 : decode cX11_init 7 = .ok (.newarray .int, 2) := by decide +kernel
theorem dX11_init_9 : decode cX11_init 9 = .ok (.putfield 9, 3) := by decide +kernel
theorem dX11_init_12 : decode cX11_init 12 = .ok (.aload_n 0, 1) := by decide +kernel
theorem dX11_init_13 : decode cX11_init 13 = .ok (.bipush 60, 2) := by decide +kernel
theorem dX11_init_15 : decode cX11_init 15 = .ok (.newarray .int, 2) := by decide +kernel
theorem dX11_init_17 : decode cX11_init 17 = .ok (.putfield 15, 3) := by decide +kernel
theorem dX11_init_20 : decode cX11_init 20 = .ok (.return_, 1) := by decide +kernel
theorem dX11_write_0 : decode cX11_write 0 = .ok (.iconst 0, 1) := by decide +kernel
theorem dX11_write_1 : decode cX11_write 1 = .ok (.istore_n 2, 1) := by decide +kernel
theorem dX11_write_2 : decode cX11_write 2 = .ok (.iconst 0, 1) := by decide +kernel
theorem dX11_write_3 : decode cX11_write 3 = .ok (.istore_n 3, 1) := by decide +kernel
theorem dX11_write_4 : decode cX11_write 4 = .ok (.iload_n 3, 1) := by decide +kernel
theorem dX11_write_5 : decode cX11_write 5 = .ok (.aload_n 0, 1) := by decide +kernel
theorem dX11_write_6 : decode cX11_write 6 = .ok (.invokevirtual 18, 3) := by decide +kernel
theorem dX11_write_9 : decode cX11_write 9 = .ok (.if_icmp .ge 34, 3) := by decide +kernel
theorem dX11_write_12 : decode cX11_write 12 = .ok (.aload_n 0, 1) := by decide +kernel
theorem dX11_write_13 : decode cX11_write 13 = .ok (.iload_n 3, 1) := by decide +kernel
theorem dX11_write_14 : decode cX11_write 14 = .ok (.invokevirtual 22, 3) := by decide +kernel
theorem dX11_write_17 : decode cX11_write 17 = .ok (.ifCond .eq 20, 3) := by decide +kernel
theorem dX11_write_20 : decode cX11_write 20 = .ok (.iload_n 2, 1) := by decide +kernel
theorem dX11_write_21 : decode cX11_write 21 = .ok (.aload_n 1, 1) := by decide +kernel
theorem dX11_write_22 : decode cX11_write 22 = .ok (.arraylength, 1) := by decide +kernel
theorem dX11_write_23 : decode cX11_write 23 = .ok (.if_icmp .ge 14, 3) := by decide +kernel
theorem dX11_write_26 : decode cX11_write 26 = .ok (.aload_n 1, 1) := by decide +kernel
theorem dX11_write_27 : decode cX11_write 27 = .ok (.iload_n 2, 1) := by decide +kernel
theorem dX11_write_28 : decode cX11_write 28 = .ok (.aload_n 0, 1) := by decide +kernel
theorem dX11_write_29 : decode cX11_write 29 = .ok (.iload_n 3, 1) := by decide +kernel
theorem dX11_write_30 : decode cX11_write 30 = .ok (.invokevirtual 26, 3) := by decide +kernel
theorem dX11_write_33 : decode cX11_write 33 = .ok (.iastore, 1) := by decide +kernel
theorem dX11_write_34 : decode cX11_write 34 = .ok (.iinc 2 1, 3) := by decide +kernel
theorem dX11_write_37 : decode cX11_write 37 = .ok (.iinc 3 1, 3) := by decide +kernel
theorem dX11_write_40 : decode cX11_write 40 = .ok (.goto (-36), 3) := by decide +kernel
theorem dX11_write_43 : decode cX11_write 43 = .ok (.iload_n 2, 1) := by decide +kernel
theorem dX11_write_44 : decode cX11_write 44 = .ok (.ireturn, 1) := by decide +kernel
theorem dX11_load_0 : decode cX11_load 0 = .ok (.aload_n 0, 1) := by decide +kernel
theorem dX11_load_1 : decode cX11_load 1 = .ok (.aload_n 1, 1) := by decide +kernel
theorem dX11_load_2 : decode cX11_load 2 = .ok (.aload_n 0, 1) := by decide +kernel
theorem dX11_load_3 : decode cX11_load 3 = .ok (.getfield 9, 3) := by decide +kernel
theorem dX11_load_6 : decode cX11_load 6 = .ok (.invokestatic 30, 3) := by decide +kernel
theorem dX11_load_9 : decode cX11_load 9 = .ok (.putfield 34, 3) := by decide +kernel
theorem dX11_load_12 : decode cX11_load 12 = .ok (.aload_n 0, 1) := by decide +kernel
theorem dX11_load_13 : decode cX11_load 13 = .ok (.aload_n 2, 1) := by decide +kernel
theorem dX11_load_14 : decode cX11_load 14 = .ok (.aload_n 0, 1) := by decide +kernel
theorem dX11_load_15 : decode cX11_load 15 = .ok (.getfield 15, 3) := by decide +kernel
theorem dX11_load_18 : decode cX11_load 18 = .ok (.invokestatic 30, 3) := by decide +kernel
theorem dX11_load_21 : decode cX11_load 21 = .ok (.putfield 38, 3) := by decide +kernel
theorem dX11_load_24 : decode cX11_load 24 = .ok (.return_, 1) := by decide +kernel
theorem dX11_areMirrored_0 : decode cX11_areMirrored 0 = .ok (.aload_n 0, 1) := by decide +kernel
theorem dX11_areMirrored_1 : decode cX11_areMirrored 1 = .ok (.aload_n 1, 1) := by decide +kernel
theorem dX11_areMirrored_2 : decode cX11_areMirrored 2 = .ok (.aload_n 2, 1) := by decide +kernel
theorem dX11_areMirrored_3 : decode cX11_areMirrored 3 = .ok (.invokevirtual 41, 3) := by decide +kernel
theorem dX11_areMirrored_6 : decode cX11_areMirrored 6 = .ok (.aload_n 0, 1) := by decide +kernel
theorem dX11_areMirrored_7 : decode cX11_areMirrored 7 = .ok (.getfield 34, 3) := by decide +kernel
theorem dX11_areMirrored_10 : decode cX11_areMirrored 10 = .ok (.aload_n 0, 1) := by decide +kernel
theorem dX11_areMirrored_11 : decode cX11_areMirrored 11 = .ok (.getfield 38, 3) := by decide +kernel
theorem dX11_areMirrored_14 : decode cX11_areMirrored 14 = .ok (.if_icmp .eq 5, 3) := by decide +kernel
theorem dX11_areMirrored_17 : decode cX11_areMirrored 17 = .ok (.iconst 0, 1) := by decide +kernel
theorem dX11_areMirrored_18 : decode cX11_areMirrored 18 = .ok (.ireturn, 1) := by decide +kernel
theorem dX11_areMirrored_19 : decode cX11_areMirrored 19 = .ok (.iconst 0, 1) := by decide +kernel
theorem dX11_areMirrored_20 : decode cX11_areMirrored 20 = .ok (.istore_n 3, 1) := by decide +kernel
theorem dX11_areMirrored_21 : decode cX11_areMirrored 21 = .ok (.iload_n 3, 1) := by decide +kernel
theorem dX11_areMirrored_22 : decode cX11_areMirrored 22 = .ok (.aload_n 0, 1) := by decide +kernel
theorem dX11_areMirrored_23 : decode cX11_areMirrored 23 = .ok (.getfield 34, 3) := by decide +kernel
theorem dX11_areMirrored_26 : decode cX11_areMirrored 26 = .ok (.if_icmp .ge 33, 3) := by decide +kernel
theorem dX11_areMirrored_29 : decode cX11_areMirrored 29 = .ok (.aload_n 0, 1) := by decide +kernel
theorem dX11_areMirrored_30 : decode cX11_areMirrored 30 = .ok (.getfield 9, 3) := by decide +kernel
theorem dX11_areMirrored_33 : decode cX11_areMirrored 33 = .ok (.iload_n 3, 1) := by decide +kernel
theorem dX11_areMirrored_34 : decode cX11_areMirrored 34 = .ok (.iaload, 1) := by decide +kernel
theorem dX11_areMirrored_35 : decode cX11_areMirrored 35 = .ok (.aload_n 0, 1) := by decide +kernel
theorem dX11_areMirrored_36 : decode cX11_areMirrored 36 = .ok (.getfield 15, 3) := by decide +kernel
theorem dX11_areMirrored_39 : decode cX11_areMirrored 39 = .ok (.aload_n 0, 1) := by decide +kernel
theorem dX11_areMirrored_40 : decode cX11_areMirrored 40 = .ok (.getfield 38, 3) := by decide +kernel
theorem dX11_areMirrored_43 : decode cX11_areMirrored 43 = .ok (.iconst 1, 1) := by decide +kernel
theorem dX11_areMirrored_44 : decode cX11_areMirrored 44 = .ok (.isub, 1) := by decide +kernel
theorem dX11_areMirrored_45 : decode cX11_areMirrored 45 = .ok (.iload_n 3, 1) := by decide +kernel
theorem dX11_areMirrored_46 : decode cX11_areMirrored 46 = .ok (.isub, 1) := by decide +kernel
theorem dX11_areMirrored_47 : decode cX11_areMirrored 47 = .ok (.iaload, 1) := by decide +kernel
theorem dX11_areMirrored_48 : decode cX11_areMirrored 48 = .ok (.if_icmp .eq 5, 3) := by decide +kernel
theorem dX11_areMirrored_51 : decode cX11_areMirrored 51 = .ok (.iconst 0, 1) := by decide +kernel
theorem dX11_areMirrored_52 : decode cX11_areMirrored 52 = .ok (.ireturn, 1) := by decide +kernel
theorem dX11_areMirrored_53 : decode cX11_areMirrored 53 = .ok (.iinc 3 1, 3) := by decide +kernel
theorem dX11_areMirrored_56 : decode cX11_areMirrored 56 = .ok (.goto (-35), 3) := by decide +kernel
theorem dX11_areMirrored_59 : decode cX11_areMirrored 59 = .ok (.iconst 1, 1) := by decide +kernel
theorem dX11_areMirrored_60 : decode cX11_areMirrored 60 = .ok (.ireturn, 1) := by decide +kernel
theorem dX11_compare_0 : decode cX11_compare 0 = .ok (.aload_n 0, 1) := by decide +kernel
theorem dX11_compare_1 : decode cX11_compare 1 = .ok (.aload_n 1, 1) := by decide +kernel
theorem dX11_compare_2 : decode cX11_compare 2 = .ok (.aload_n 2, 1) := by decide +kernel
theorem dX11_compare_3 : decode cX11_compare 3 = .ok (.invokevirtual 41, 3) := by decide +kernel
theorem dX11_compare_6 : decode cX11_compare 6 = .ok (.aload_n 0, 1) := by decide +kernel
theorem dX11_compare_7 : decode cX11_compare 7 = .ok (.iconst 0, 1) := by decide +kernel
theorem dX11_compare_8 : decode cX11_compare 8 = .ok (.putfield 45, 3) := by decide +kernel
theorem dX11_compare_11 : decode cX11_compare 11 = .ok (.iconst 0, 1) := by decide +kernel
theorem dX11_compare_12 : decode cX11_compare 12 = .ok (.istore_n 3, 1) := by decide +kernel
theorem dX11_compare_13 : decode cX11_compare 13 = .ok (.iload_n 3, 1) := by decide +kernel
theorem dX11_compare_14 : decode cX11_compare 14 = .ok (.aload_n 0, 1) := by decide +kernel
theorem dX11_compare_15 : decode cX11_compare 15 = .ok (.getfield 45, 3) := by decide +kernel
theorem dX11_compare_18 : decode cX11_compare 18 = .ok (.iadd, 1) := by decide +kernel
theorem dX11_compare_19 : decode cX11_compare 19 = .ok (.aload_n 0, 1) := by decide +kernel
theorem dX11_compare_20 : decode cX11_compare 20 = .ok (.getfield 34, 3) := by decide +kernel
theorem dX11_compare_23 : decode cX11_compare 23 = .ok (.if_icmp .ge 85, 3) := by decide +kernel
theorem dX11_compare_26 : decode cX11_compare 26 = .ok (.iconst 0, 1) := by decide +kernel
theorem dX11_compare_27 : decode cX11_compare 27 = .ok (.istore 4, 2) := by decide +kernel
theorem dX11_compare_29 : decode cX11_compare 29 = .ok (.iload 4, 2) := by decide +kernel
theorem dX11_compare_31 : decode cX11_compare 31 = .ok (.aload_n 0, 1) := by decide +kernel
theorem dX11_compare_32 : decode cX11_compare 32 = .ok (.getfield 45, 3) := by decide +kernel
theorem dX11_compare_35 : decode cX11_compare 35 = .ok (.iadd, 1) := by decide +kernel
theorem dX11_compare_36 : decode cX11_compare 36 = .ok (.aload_n 0, 1) := by decide +kernel
theorem dX11_compare_37 : decode cX11_compare 37 = .ok (.getfield 38, 3) := by decide +kernel
theorem dX11_compare_40 : decode cX11_compare 40 = .ok (.if_icmp .ge 62, 3) := by decide +kernel
theorem dX11_compare_43 : decode cX11_compare 43 = .ok (.aload_n 0, 1) := by decide +kernel
theorem dX11_compare_44 : decode cX11_compare 44 = .ok (.iload_n 3, 1) := by decide +kernel
theorem dX11_compare_45 : decode cX11_compare 45 = .ok (.iload 4, 2) := by decide +kernel
theorem dX11_compare_47 : decode cX11_compare 47 = .ok (.invokevirtual 48, 3) := by decide +kernel
theorem dX11_compare_50 : decode cX11_compare 50 = .ok (.istore 5, 2) := by decide +kernel
theorem dX11_compare_52 : decode cX11_compare 52 = .ok (.iload 5, 2) := by decide +kernel
theorem dX11_compare_54 : decode cX11_compare 54 = .ok (.aload_n 0, 1) := by decide +kernel
theorem dX11_compare_55 : decode cX11_compare 55 = .ok (.getfield 45, 3) := by decide +kernel
theorem dX11_compare_58 : decode cX11_compare 58 = .ok (.if_icmp .le 38, 3) := by decide +kernel
theorem dX11_compare_61 : decode cX11_compare 61 = .ok (.aload_n 0, 1) := by decide +kernel
theorem dX11_compare_62 : decode cX11_compare 62 = .ok (.iload 5, 2) := by decide +kernel
theorem dX11_compare_64 : decode cX11_compare 64 = .ok (.putfield 45, 3) := by decide +kernel
theorem dX11_compare_67 : decode cX11_compare 67 = .ok (.aload_n 0, 1) := by decide +kernel
theorem dX11_compare_68 : decode cX11_compare 68 = .ok (.iload_n 3, 1) := by decide +kernel
theorem dX11_compare_69 : decode cX11_compare 69 = .ok (.putfield 52, 3) := by decide +kernel
theorem dX11_compare_72 : decode cX11_compare 72 = .ok (.aload_n 0, 1) := by decide +kernel
theorem dX11_compare_73 : decode cX11_compare 73 = .ok (.iload 4, 2) := by decide +kernel
theorem dX11_compare_75 : decode cX11_compare 75 = .ok (.putfield 55, 3) := by decide +kernel
theorem dX11_compare_78 : decode cX11_compare 78 = .ok (.aload_n 0, 1) := by decide +kernel
theorem dX11_compare_79 : decode cX11_compare 79 = .ok (.aload_n 0, 1) := by decide +kernel
theorem dX11_compare_80 : decode cX11_compare 80 = .ok (.getfield 15, 3) := by decide +kernel
theorem dX11_compare_83 : decode cX11_compare 83 = .ok (.iload 4, 2) := by decide +kernel
theorem dX11_compare_85 : decode cX11_compare 85 = .ok (.iaload, 1) := by decide +kernel
theorem dX11_compare_86 : decode cX11_compare 86 = .ok (.aload_n 0, 1) := by decide +kernel
theorem dX11_compare_87 : decode cX11_compare 87 = .ok (.getfield 9, 3) := by decide +kernel
theorem dX11_compare_90 : decode cX11_compare 90 = .ok (.iload_n 3, 1) := by decide +kernel
theorem dX11_compare_91 : decode cX11_compare 91 = .ok (.iaload, 1) := by decide +kernel
theorem dX11_compare_92 : decode cX11_compare 92 = .ok (.isub, 1) := by decide +kernel
theorem dX11_compare_93 : decode cX11_compare 93 = .ok (.putfield 58, 3) := by decide +kernel
theorem dX11_compare_96 : decode cX11_compare 96 = .ok (.iinc 4 1, 3) := by decide +kernel
theorem dX11_compare_99 : decode cX11_compare 99 = .ok (.goto (-70), 3) := by decide +kernel
theorem dX11_compare_102 : decode cX11_compare 102 = .ok (.iinc 3 1, 3) := by decide +kernel
theorem dX11_compare_105 : decode cX11_compare 105 = .ok (.goto (-92), 3) := by decide +kernel
theorem dX11_compare_108 : decode cX11_compare 108 = .ok (.return_, 1) := by decide +kernel
theorem dX11_rowFrom_0 : decode cX11_rowFrom 0 = .ok (.iload_n 1, 1) := by decide +kernel
theorem dX11_rowFrom_1 : decode cX11_rowFrom 1 = .ok (.ifCond .lt 23, 3) := by decide +kernel
theorem dX11_rowFrom_4 : decode cX11_rowFrom 4 = .ok (.iload_n 2, 1) := by decide +kernel
theorem dX11_rowFrom_5 : decode cX11_rowFrom 5 = .ok (.ifCond .lt 19, 3) := by decide +kernel
theorem dX11_rowFrom_8 : decode cX11_rowFrom 8 = .ok (.iload_n 1, 1) := by decide +kernel
theorem dX11_rowFrom_9 : decode cX11_rowFrom 9 = .ok (.aload_n 0, 1) := by decide +kernel
theorem dX11_rowFrom_10 : decode cX11_rowFrom 10 = .ok (.getfield 34, 3) := by decide +kernel
theorem dX11_rowFrom_13 : decode cX11_rowFrom 13 = .ok (.if_icmp .ge 11, 3) := by decide +kernel
theorem dX11_rowFrom_16 : decode cX11_rowFrom 16 = .ok (.iload_n 2, 1) := by decide +kernel
theorem dX11_rowFrom_17 : decode cX11_rowFrom 17 = .ok (.aload_n 0, 1) := by decide +kernel
theorem dX11_rowFrom_18 : decode cX11_rowFrom 18 = .ok (.getfield 38, 3) := by decide +kernel
theorem dX11_rowFrom_21 : decode cX11_rowFrom 21 = .ok (.if_icmp .lt 5, 3) := by decide +kernel
theorem dX11_rowFrom_24 : decode cX11_rowFrom 24 = .ok (.iconst 0, 1) := by decide +kernel
theorem dX11_rowFrom_25 : decode cX11_rowFrom 25 = .ok (.ireturn, 1) := by decide +kernel
theorem dX11_rowFrom_26 : decode cX11_rowFrom 26 = .ok (.aload_n 0, 1) := by decide +kernel
theorem dX11_rowFrom_27 : decode cX11_rowFrom 27 = .ok (.getfield 15, 3) := by decide +kernel
theorem dX11_rowFrom_30 : decode cX11_rowFrom 30 = .ok (.iload_n 2, 1) := by decide +kernel
theorem dX11_rowFrom_31 : decode cX11_rowFrom 31 = .ok (.iaload, 1) := by decide +kernel
theorem dX11_rowFrom_32 : decode cX11_rowFrom 32 = .ok (.aload_n 0, 1) := by decide +kernel
theorem dX11_rowFrom_33 : decode cX11_rowFrom 33 = .ok (.getfield 9, 3) := by decide +kernel
theorem dX11_rowFrom_36 : decode cX11_rowFrom 36 = .ok (.iload_n 1, 1) := by decide +kernel
theorem dX11_rowFrom_37 : decode cX11_rowFrom 37 = .ok (.iaload, 1) := by decide +kernel
theorem dX11_rowFrom_38 : decode cX11_rowFrom 38 = .ok (.isub, 1) := by decide +kernel
theorem dX11_rowFrom_39 : decode cX11_rowFrom 39 = .ok (.istore_n 3, 1) := by decide +kernel
theorem dX11_rowFrom_40 : decode cX11_rowFrom 40 = .ok (.iconst 1, 1) := by decide +kernel
theorem dX11_rowFrom_41 : decode cX11_rowFrom 41 = .ok (.istore 4, 2) := by decide +kernel
theorem dX11_rowFrom_43 : decode cX11_rowFrom 43 = .ok (.iload_n 1, 1) := by decide +kernel
theorem dX11_rowFrom_44 : decode cX11_rowFrom 44 = .ok (.iload 4, 2) := by decide +kernel
theorem dX11_rowFrom_46 : decode cX11_rowFrom 46 = .ok (.iadd, 1) := by decide +kernel
theorem dX11_rowFrom_47 : decode cX11_rowFrom 47 = .ok (.aload_n 0, 1) := by decide +kernel
theorem dX11_rowFrom_48 : decode cX11_rowFrom 48 = .ok (.getfield 34, 3) := by decide +kernel
theorem dX11_rowFrom_51 : decode cX11_rowFrom 51 = .ok (.if_icmp .ge 43, 3) := by decide +kernel
theorem dX11_rowFrom_54 : decode cX11_rowFrom 54 = .ok (.iload_n 2, 1) := by decide +kernel
theorem dX11_rowFrom_55 : decode cX11_rowFrom 55 = .ok (.iload 4, 2) := by decide +kernel
theorem dX11_rowFrom_57 : decode cX11_rowFrom 57 = .ok (.iadd, 1) := by decide +kernel
theorem dX11_rowFrom_58 : decode cX11_rowFrom 58 = .ok (.aload_n 0, 1) := by decide +kernel
theorem dX11_rowFrom_59 : decode cX11_rowFrom 59 = .ok (.getfield 38, 3) := by decide +kernel
theorem dX11_rowFrom_62 : decode cX11_rowFrom 62 = .ok (.if_icmp .ge 32, 3) := by decide +kernel
theorem dX11_rowFrom_65 : decode cX11_rowFrom 65 = .ok (.aload_n 0, 1) := by decide +kernel
theorem dX11_rowFrom_66 : decode cX11_rowFrom 66 = .ok (.getfield 15, 3) := by decide +kernel
theorem dX11_rowFrom_69 : decode cX11_rowFrom 69 = .ok (.iload_n 2, 1) := by decide +kernel
theorem dX11_rowFrom_70 : decode cX11_rowFrom 70 = .ok (.iload 4, 2) := by decide +kernel
theorem dX11_rowFrom_72 : decode cX11_rowFrom 72 = .ok (.iadd, 1) := by decide +kernel
theorem dX11_rowFrom_73 : decode cX11_rowFrom 73 = .ok (.iaload, 1) := by decide +kernel
theorem dX11_rowFrom_74 : decode cX11_rowFrom 74 = .ok (.aload_n 0, 1) := by decide +kernel
theorem dX11_rowFrom_75 : decode cX11_rowFrom 75 = .ok (.getfield 9, 3) := by decide +kernel
theorem dX11_rowFrom_78 : decode cX11_rowFrom 78 = .ok (.iload_n 1, 1) := by decide +kernel
theorem dX11_rowFrom_79 : decode cX11_rowFrom 79 = .ok (.iload 4, 2) := by decide +kernel
theorem dX11_rowFrom_81 : decode cX11_rowFrom 81 = .ok (.iadd, 1) := by decide +kernel
theorem dX11_rowFrom_82 : decode cX11_rowFrom 82 = .ok (.iaload, 1) := by decide +kernel
theorem dX11_rowFrom_83 : decode cX11_rowFrom 83 = .ok (.isub, 1) := by decide +kernel
theorem dX11_rowFrom_84 : decode cX11_rowFrom 84 = .ok (.iload_n 3, 1) := by decide +kernel
theorem dX11_rowFrom_85 : decode cX11_rowFrom 85 = .ok (.if_icmp .ne 9, 3) := by decide +kernel
theorem dX11_rowFrom_88 : decode cX11_rowFrom 88 = .ok (.iinc 4 1, 3) := by decide +kernel
theorem dX11_rowFrom_91 : decode cX11_rowFrom 91 = .ok (.goto (-48), 3) := by decide +kernel
theorem dX11_rowFrom_94 : decode cX11_rowFrom 94 = .ok (.iload 4, 2) := by decide +kernel
theorem dX11_rowFrom_96 : decode cX11_rowFrom 96 = .ok (.ireturn, 1) := by decide +kernel
theorem dJ6_bitCount_0f7a4_0 : decode cJ6_bitCount_0f7a4 0 = .ok (.iload_n 0, 1) := by decide +kernel
theorem dJ6_bitCount_0f7a4_1 : decode cJ6_bitCount_0f7a4 1 = .ok (.iload_n 0, 1) := by decide +kernel
theorem dJ6_bitCount_0f7a4_2 : decode cJ6_bitCount_0f7a4 2 = .ok (.iconst 1, 1) := by decide +kernel
theorem dJ6_bitCount_0f7a4_3 : decode cJ6_bitCount_0f7a4 3 = .ok (.iushr, 1) := by decide +kernel
theorem dJ6_bitCount_0f7a4_4 : decode cJ6_bitCount_0f7a4 4 = .ok (.ldc_w 265, 3) := by decide +kernel
theorem dJ6_bitCount_0f7a4_7 : decode cJ6_bitCount_0f7a4 7 = .ok (.iand, 1) := by decide +kernel
theorem dJ6_bitCount_0f7a4_8 : decode cJ6_bitCount_0f7a4 8 = .ok (.isub, 1) := by decide +kernel
theorem dJ6_bitCount_0f7a4_9 : decode cJ6_bitCount_0f7a4 9 = .ok (.istore_n 0, 1) := by decide +kernel
theorem dJ6_bitCount_0f7a4_10 : decode cJ6_bitCount_0f7a4 10 = .ok (.iload_n 0, 1) := by decide +kernel
theorem dJ6_bitCount_0f7a4_11 : decode cJ6_bitCount_0f7a4 11 = .ok (.ldc_w 266, 3) := by decide +kernel
theorem dJ6_bitCount_0f7a4_14 : decode cJ6_bitCount_0f7a4 14 = .ok (.iand, 1) := by decide +kernel
theorem dJ6_bitCount_0f7a4_15 : decode cJ6_bitCount_0f7a4 15 = .ok (.iload_n 0, 1) := by decide +kernel
theorem dJ6_bitCount_0f7a4_16 : decode cJ6_bitCount_0f7a4 16 = .ok (.iconst 2, 1) := by decide +kernel
theorem dJ6_bitCount_0f7a4_17 : decode cJ6_bitCount_0f7a4 17 = .ok (.iushr, 1) := by decide +kernel
theorem dJ6_bitCount_0f7a4_18 : decode cJ6_bitCount_0f7a4 18 = .ok (.ldc_w 266, 3) := by decide +kernel
theorem dJ6_bitCount_0f7a4_21 : decode cJ6_bitCount_0f7a4 21 = .ok (.iand, 1) := by decide +kernel
theorem dJ6_bitCount_0f7a4_22 : decode cJ6_bitCount_0f7a4 22 = .ok (.iadd, 1) := by decide +kernel
theorem dJ6_bitCount_0f7a4_23 : decode cJ6_bitCount_0f7a4 23 = .ok (.istore_n 0, 1) := by decide +kernel
theorem dJ6_bitCount_0f7a4_24 : decode cJ6_bitCount_0f7a4 24 = .ok (.iload_n 0, 1) := by decide +kernel
theorem dJ6_bitCount_0f7a4_25 : decode cJ6_bitCount_0f7a4 25 = .ok (.iload_n 0, 1) := by decide +kernel
theorem dJ6_bitCount_0f7a4_26 : decode cJ6_bitCount_0f7a4 26 = .ok (.iconst 4, 1) := by decide +kernel
theorem dJ6_bitCount_0f7a4_27 : decode cJ6_bitCount_0f7a4 27 = .ok (.iushr, 1) := by decide +kernel
theorem dJ6_bitCount_0f7a4_28 : decode cJ6_bitCount_0f7a4 28 = .ok (.iadd, 1) := by decide +kernel
theorem dJ6_bitCount_0f7a4_29 : decode cJ6_bitCount_0f7a4 29 = .ok (.ldc_w 267, 3) := by decide +kernel
theorem dJ6_bitCount_0f7a4_32 : decode cJ6_bitCount_0f7a4 32 = .ok (.iand, 1) := by decide +kernel
theorem dJ6_bitCount_0f7a4_33 : decode cJ6_bitCount_0f7a4 33 = .ok (.istore_n 0, 1) := by decide +kernel
theorem dJ6_bitCount_0f7a4_34 : decode cJ6_bitCount_0f7a4 34 = .ok (.iload_n 0, 1) := by decide +kernel
theorem dJ6_bitCount_0f7a4_35 : decode cJ6_bitCount_0f7a4 35 = .ok (.iload_n 0, 1) := by decide +kernel
theorem dJ6_bitCount_0f7a4_36 : decode cJ6_bitCount_0f7a4 36 = .ok (.bipush 8, 2) := by decide +kernel
theorem dJ6_bitCount_0f7a4_38 : decode cJ6_bitCount_0f7a4 38 = .ok (.iushr, 1) := by decide +kernel
theorem dJ6_bitCount_0f7a4_39 : decode cJ6_bitCount_0f7a4 39 = .ok (.iadd, 1) := by decide +kernel
theorem dJ6_bitCount_0f7a4_40 : decode cJ6_bitCount_0f7a4 40 = .ok (.istore_n 0, 1) := by decide +kernel
theorem dJ6_bitCount_0f7a4_41 : decode cJ6_bitCount_0f7a4 41 = .ok (.iload_n 0, 1) := by decide +kernel
theorem dJ6_bitCount_0f7a4_42 : decode cJ6_bitCount_0f7a4 42 = .ok (.iload_n 0, 1) := by decide +kernel
theorem dJ6_bitCount_0f7a4_43 : decode cJ6_bitCount_0f7a4 43 = .ok (.bipush 16, 2) := by decide +kernel
theorem dJ6_bitCount_0f7a4_45 : decode cJ6_bitCount_0f7a4 45 = .ok (.iushr, 1) := by decide +kernel
theorem dJ6_bitCount_0f7a4_46 : decode cJ6_bitCount_0f7a4 46 = .ok (.iadd, 1) := by decide +kernel
theorem dJ6_bitCount_0f7a4_47 : decode cJ6_bitCount_0f7a4 47 = .ok (.istore_n 0, 1) := by decide +kernel
theorem dJ6_bitCount_0f7a4_48 : decode cJ6_bitCount_0f7a4 48 = .ok (.iload_n 0, 1) := by decide +kernel
theorem dJ6_bitCount_0f7a4_49 : decode cJ6_bitCount_0f7a4 49 = .ok (.bipush 63, 2) := by decide +kernel
theorem dJ6_bitCount_0f7a4_51 : decode cJ6_bitCount_0f7a4 51 = .ok (.iand, 1) := by decide +kernel
theorem dJ6_bitCount_0f7a4_52 : decode cJ6_bitCount_0f7a4 52 = .ok (.ireturn, 1) := by decide +kernel
