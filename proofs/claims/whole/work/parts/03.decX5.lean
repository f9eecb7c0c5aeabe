theorem dX5_init_0 : decode cX5_init 0 = .ok (.aload_n 0, 1) := by decide +kernel
theorem dX5_init_1 : decode cX5_init 1 = .ok (.invokespecial 1, 3) := by decide +kernel
theorem dX5_init_4 : decode cX5_init 4 = .ok (.aload_n 0, 1) := by decide +kernel
theorem dX5_init_5 : decode cX5_init 5 = .ok (.bipush 60, 2) := by decide +kernel
theorem dX5_init_7 : decode cX5_init 7 = .ok (.newarray .int, 2) := by decide +kernel
theorem dX5_init_9 : decode cX5_init 9 = .ok (.putfield 9, 3) := by decide +kernel
theorem dX5_init_12 : decode cX5_init 12 = .ok (.aload_n 0, 1) := by decide +kernel
theorem dX5_init_13 : decode cX5_init 13 = .ok (.bipush 60, 2) := by decide +kernel
theorem dX5_init_15 : decode cX5_init 15 = .ok (.newarray .int, 2) := by decide +kernel
theorem dX5_init_17 : decode cX5_init 17 = .ok (.putfield 13, 3) := by decide +kernel
theorem dX5_init_20 : decode cX5_init 20 = .ok (.aload_n 0, 1) := by decide +kernel
theorem dX5_init_21 : decode cX5_init 21 = .ok (.bipush 61, 2) := by decide +kernel
theorem dX5_init_23 : decode cX5_init 23 = .ok (.newarray .int, 2) := by decide +kernel
theorem dX5_init_25 : decode cX5_init 25 = .ok (.putfield 16, 3) := by decide +kernel
theorem dX5_init_28 : decode cX5_init 28 = .ok (.return_, 1) := by decide +kernel
theorem dX5_length_0 : decode cX5_length 0 = .ok (.aload_n 0, 1) := by decide +kernel
theorem dX5_length_1 : decode cX5_length 1 = .ok (.getfield 19, 3) := by decide +kernel
theorem dX5_length_4 : decode cX5_length 4 = .ok (.ireturn, 1) := by decide +kernel
theorem dX5_has_0 : decode cX5_has 0 = .ok (.iload_n 1, 1) := by decide +kernel
theorem dX5_has_1 : decode cX5_has 1 = .ok (.ifCond .lt 15, 3) := by decide +kernel
theorem dX5_has_4 : decode cX5_has 4 = .ok (.iload_n 1, 1) := by decide +kernel
theorem dX5_has_5 : decode cX5_has 5 = .ok (.aload_n 0, 1) := by decide +kernel
theorem dX5_has_6 : decode cX5_has 6 = .ok (.getfield 19, 3) := by decide +kernel
theorem dX5_has_9 : decode cX5_has 9 = .ok (.if_icmp .ge 7, 3) := by decide +kernel
theorem dX5_has_12 : decode cX5_has 12 = .ok (.iconst 1, 1) := by decide +kernel
theorem dX5_has_13 : decode cX5_has 13 = .ok (.goto 4, 3) := by decide +kernel
theorem dX5_has_16 : decode cX5_has 16 = .ok (.iconst 0, 1) := by decide +kernel
theorem dX5_has_17 : decode cX5_has 17 = .ok (.ireturn, 1) := by decide +kernel
theorem dX5_noteAt_0 : decode cX5_noteAt 0 = .ok (.aload_n 0, 1) := by decide +kernel
theorem dX5_noteAt_1 : decode cX5_noteAt 1 = .ok (.iload_n 1, 1) := by decide +kernel
theorem dX5_noteAt_2 : decode cX5_noteAt 2 = .ok (.invokevirtual 23, 3) := by decide +kernel
theorem dX5_noteAt_5 : decode cX5_noteAt 5 = .ok (.ifCond .eq 12, 3) := by decide +kernel
theorem dX5_noteAt_8 : decode cX5_noteAt 8 = .ok (.aload_n 0, 1) := by decide +kernel
theorem dX5_noteAt_9 : decode cX5_noteAt 9 = .ok (.getfield 9, 3) := by decide +kernel
theorem dX5_noteAt_12 : decode cX5_noteAt 12 = .ok (.iload_n 1, 1) := by decide +kernel
theorem dX5_noteAt_13 : decode cX5_noteAt 13 = .ok (.iaload, 1) := by decide +kernel
theorem dX5_noteAt_14 : decode cX5_noteAt 14 = .ok (.goto 4, 3) := by decide +kernel
theorem dX5_noteAt_17 : decode cX5_noteAt 17 = .ok (.iconst 0, 1) := by decide +kernel
theorem dX5_noteAt_18 : decode cX5_noteAt 18 = .ok (.ireturn, 1) := by decide +kernel
theorem dX5_hasFermata_0 : decode cX5_hasFermata 0 = .ok (.aload_n 0, 1) := by decide +kernel
theorem dX5_hasFermata_1 : decode cX5_hasFermata 1 = .ok (.iload_n 1, 1) := by decide +kernel
theorem dX5_hasFermata_2 : decode cX5_hasFermata 2 = .ok (.invokevirtual 23, 3) := by decide +kernel
theorem dX5_hasFermata_5 : decode cX5_hasFermata 5 = .ok (.ifCond .eq 18, 3) := by decide +kernel
theorem dX5_hasFermata_8 : decode cX5_hasFermata 8 = .ok (.aload_n 0, 1) := by decide +kernel
theorem dX5_hasFermata_9 : decode cX5_hasFermata 9 = .ok (.getfield 13, 3) := by decide +kernel
theorem dX5_hasFermata_12 : decode cX5_hasFermata 12 = .ok (.iload_n 1, 1) := by decide +kernel
theorem dX5_hasFermata_13 : decode cX5_hasFermata 13 = .ok (.iaload, 1) := by decide +kernel
theorem dX5_hasFermata_14 : decode cX5_hasFermata 14 = .ok (.iconst 1, 1) := by decide +kernel
theorem dX5_hasFermata_15 : decode cX5_hasFermata 15 = .ok (.iand, 1) := by decide +kernel
theorem dX5_hasFermata_16 : decode cX5_hasFermata 16 = .ok (.ifCond .eq 7, 3) := by decide +kernel
theorem dX5_hasFermata_19 : decode cX5_hasFermata 19 = .ok (.iconst 1, 1) := by decide +kernel
theorem dX5_hasFermata_20 : decode cX5_hasFermata 20 = .ok (.goto 4, 3) := by decide +kernel
theorem dX5_hasFermata_23 : decode cX5_hasFermata 23 = .ok (.iconst 0, 1) := by decide +kernel
theorem dX5_hasFermata_24 : decode cX5_hasFermata 24 = .ok (.ireturn, 1) := by decide +kernel
theorem dX5_hasBreath_0 : decode cX5_hasBreath 0 = .ok (.aload_n 0, 1) := by decide +kernel
theorem dX5_hasBreath_1 : decode cX5_hasBreath 1 = .ok (.iload_n 1, 1) := by decide +kernel
theorem dX5_hasBreath_2 : decode cX5_hasBreath 2 = .ok (.invokevirtual 23, 3) := by decide +kernel
theorem dX5_hasBreath_5 : decode cX5_hasBreath 5 = .ok (.ifCond .eq 18, 3) := by decide +kernel
theorem dX5_hasBreath_8 : decode cX5_hasBreath 8 = .ok (.aload_n 0, 1) := by decide +kernel
theorem dX5_hasBreath_9 : decode cX5_hasBreath 9 = .ok (.getfield 13, 3) := by decide +kernel
theorem dX5_hasBreath_12 : decode cX5_hasBreath 12 = .ok (.iload_n 1, 1) := by decide +kernel
theorem dX5_hasBreath_13 : decode cX5_hasBreath 13 = .ok (.iaload, 1) := by decide +kernel
theorem dX5_hasBreath_14 : decode cX5_hasBreath 14 = .ok (.iconst 2, 1) := by decide +kernel
theorem dX5_hasBreath_15 : decode cX5_hasBreath 15 = .ok (.iand, 1) := by decide +kernel
theorem dX5_hasBreath_16 : decode cX5_hasBreath 16 = .ok (.ifCond .eq 7, 3) := by decide +kernel
theorem dX5_hasBreath_19 : decode cX5_hasBreath 19 = .ok (.iconst 1, 1) := by decide +kernel
theorem dX5_hasBreath_20 : decode cX5_hasBreath 20 = .ok (.goto 4, 3) := by decide +kernel
theorem dX5_hasBreath_23 : decode cX5_hasBreath 23 = .ok (.iconst 0, 1) := by decide +kernel
theorem dX5_hasBreath_24 : decode cX5_hasBreath 24 = .ok (.ireturn, 1) := by decide +kernel
theorem dX5_begins_0 : decode cX5_begins 0 = .ok (.aload_n 0, 1) := by decide +kernel
theorem dX5_begins_1 : decode cX5_begins 1 = .ok (.iload_n 1, 1) := by decide +kernel
theorem dX5_begins_2 : decode cX5_begins 2 = .ok (.invokevirtual 23, 3) := by decide +kernel
theorem dX5_begins_5 : decode cX5_begins 5 = .ok (.ifCond .eq 18, 3) := by decide +kernel
theorem dX5_begins_8 : decode cX5_begins 8 = .ok (.aload_n 0, 1) := by decide +kernel
theorem dX5_begins_9 : decode cX5_begins 9 = .ok (.getfield 13, 3) := by decide +kernel
theorem dX5_begins_12 : decode cX5_begins 12 = .ok (.iload_n 1, 1) := by decide +kernel
theorem dX5_begins_13 : decode cX5_begins 13 = .ok (.iaload, 1) := by decide +kernel
theorem dX5_begins_14 : decode cX5_begins 14 = .ok (.iconst 4, 1) := by decide +kernel
theorem dX5_begins_15 : decode cX5_begins 15 = .ok (.iand, 1) := by decide +kernel
theorem dX5_begins_16 : decode cX5_begins 16 = .ok (.ifCond .eq 7, 3) := by decide +kernel
theorem dX5_begins_19 : decode cX5_begins 19 = .ok (.iconst 1, 1) := by decide +kernel
theorem dX5_begins_20 : decode cX5_begins 20 = .ok (.goto 4, 3) := by decide +kernel
theorem dX5_begins_23 : decode cX5_begins 23 = .ok (.iconst 0, 1) := by decide +kernel
theorem dX5_begins_24 : decode cX5_begins 24 = .ok (.ireturn, 1) := by decide +kernel
theorem dX5_beginsSound_0 : decode cX5_beginsSound 0 = .ok (.aload_n 0, 1) := by decide +kernel
theorem dX5_beginsSound_1 : decode cX5_beginsSound 1 = .ok (.iload_n 1, 1) := by decide +kernel
theorem dX5_beginsSound_2 : decode cX5_beginsSound 2 = .ok (.invokevirtual 27, 3) := by decide +kernel
theorem dX5_beginsSound_5 : decode cX5_beginsSound 5 = .ok (.ifCond .eq 16, 3) := by decide +kernel
theorem dX5_beginsSound_8 : decode cX5_beginsSound 8 = .ok (.aload_n 0, 1) := by decide +kernel
theorem dX5_beginsSound_9 : decode cX5_beginsSound 9 = .ok (.getfield 9, 3) := by decide +kernel
theorem dX5_beginsSound_12 : decode cX5_beginsSound 12 = .ok (.iload_n 1, 1) := by decide +kernel
theorem dX5_beginsSound_13 : decode cX5_beginsSound 13 = .ok (.iaload, 1) := by decide +kernel
theorem dX5_beginsSound_14 : decode cX5_beginsSound 14 = .ok (.ifCond .eq 7, 3) := by decide +kernel
theorem dX5_beginsSound_17 : decode cX5_beginsSound 17 = .ok (.iconst 1, 1) := by decide +kernel
theorem dX5_beginsSound_18 : decode cX5_beginsSound 18 = .ok (.goto 4, 3) := by decide +kernel
theorem dX5_beginsSound_21 : decode cX5_beginsSound 21 = .ok (.iconst 0, 1) := by decide +kernel
theorem dX5_beginsSound_22 : decode cX5_beginsSound 22 = .ok (.ireturn, 1) := by decide +kernel
theorem dX5_fermatasWithin_0 : decode cX5_fermatasWithin 0 = .ok (.iload_n 1, 1) := by decide +kernel
theorem dX5_fermatasWithin_1 : decode cX5_fermatasWithin 1 = .ok (.ifCond .lt 20, 3) := by decide +kernel
theorem dX5_fermatasWithin_4 : decode cX5_fermatasWithin 4 = .ok (.iload_n 1, 1) := by decide +kernel
theorem dX5_fermatasWithin_5 : decode cX5_fermatasWithin 5 = .ok (.aload_n 0, 1) := by decide +kernel
theorem dX5_fermatasWithin_6 : decode cX5_fermatasWithin 6 = .ok (.getfield 19, 3) := by decide +kernel
theorem dX5_fermatasWithin_9 : decode cX5_fermatasWithin 9 = .ok (.if_icmp .gt 12, 3) := by decide +kernel
theorem dX5_fermatasWithin_12 : decode cX5_fermatasWithin 12 = .ok (.aload_n 0, 1) := by decide +kernel
theorem dX5_fermatasWithin_13 : decode cX5_fermatasWithin 13 = .ok (.getfield 16, 3) := by decide +kernel
theorem dX5_fermatasWithin_16 : decode cX5_fermatasWithin 16 = .ok (.iload_n 1, 1) := by decide +kernel
theorem dX5_fermatasWithin_17 : decode cX5_fermatasWithin 17 = .ok (.iaload, 1) := by decide +kernel
theorem dX5_fermatasWithin_18 : decode cX5_fermatasWithin 18 = .ok (.goto 4, 3) := by decide +kernel
theorem dX5_fermatasWithin_21 : decode cX5_fermatasWithin 21 = .ok (.iconst 0, 1) := by decide +kernel
theorem dX5_fermatasWithin_22 : decode cX5_fermatasWithin 22 = .ok (.ireturn, 1) := by decide +kernel
theorem dX5_fermatas_0 : decode cX5_fermatas 0 = .ok (.aload_n 0, 1) := by decide +kernel
theorem dX5_fermatas_1 : decode cX5_fermatas 1 = .ok (.aload_n 0, 1) := by decide +kernel
theorem dX5_fermatas_2 : decode cX5_fermatas 2 = .ok (.getfield 19, 3) := by decide +kernel
theorem dX5_fermatas_5 : decode cX5_fermatas 5 = .ok (.invokevirtual 30, 3) := by decide +kernel
theorem dX5_fermatas_8 : decode cX5_fermatas 8 = .ok (.ireturn, 1) := by decide +kernel
theorem dX5_beatsOf_0 : decode cX5_beatsOf 0 = .ok (.iconst 0, 1) := by decide +kernel
theorem dX5_beatsOf_1 : decode cX5_beatsOf 1 = .ok (.istore_n 2, 1) := by decide +kernel
theorem dX5_beatsOf_2 : decode cX5_beatsOf 2 = .ok (.iconst 0, 1) := by decide +kernel
theorem dX5_beatsOf_3 : decode cX5_beatsOf 3 = .ok (.istore_n 3, 1) := by decide +kernel
theorem dX5_beatsOf_4 : decode cX5_beatsOf 4 = .ok (.iload_n 3, 1) := by decide +kernel
theorem dX5_beatsOf_5 : decode cX5_beatsOf 5 = .ok (.aload_n 0, 1) := by decide +kernel
theorem dX5_beatsOf_6 : decode cX5_beatsOf 6 = .ok (.getfield 19, 3) := by decide +kernel
theorem dX5_beatsOf_9 : decode cX5_beatsOf 9 = .ok (.if_icmp .ge 22, 3) := by decide +kernel
theorem dX5_beatsOf_12 : decode cX5_beatsOf 12 = .ok (.aload_n 0, 1) := by decide +kernel
theorem dX5_beatsOf_13 : decode cX5_beatsOf 13 = .ok (.getfield 9, 3) := by decide +kernel
theorem dX5_beatsOf_16 : decode cX5_beatsOf 16 = .ok (.iload_n 3, 1) := by decide +kernel
theorem dX5_beatsOf_17 : decode cX5_beatsOf 17 = .ok (.iaload, 1) := by decide +kernel
theorem dX5_beatsOf_18 : decode cX5_beatsOf 18 = .ok (.iload_n 1, 1) := by decide +kernel
theorem dX5_beatsOf_19 : decode cX5_beatsOf 19 = .ok (.if_icmp .ne 6, 3) := by decide +kernel
theorem dX5_beatsOf_22 : decode cX5_beatsOf 22 = .ok (.iinc 2 1, 3) := by decide +kernel
theorem dX5_beatsOf_25 : decode cX5_beatsOf 25 = .ok (.iinc 3 1, 3) := by decide +kernel
theorem dX5_beatsOf_28 : decode cX5_beatsOf 28 = .ok (.goto (-24), 3) := by decide +kernel
theorem dX5_beatsOf_31 : decode cX5_beatsOf 31 = .ok (.iload_n 2, 1) := by decide +kernel
theorem dX5_beatsOf_32 : decode cX5_beatsOf 32 = .ok (.ireturn, 1) := by decide +kernel
theorem dX5_clear_0 : decode cX5_clear 0 = .ok (.aload_n 0, 1) := by decide +kernel
theorem dX5_clear_1 : decode cX5_clear 1 = .ok (.iconst 0, 1) := by decide +kernel
theorem dX5_clear_2 : decode cX5_clear 2 = .ok (.putfield 19, 3) := by decide +kernel
theorem dX5_clear_5 : decode cX5_clear 5 = .ok (.return_, 1) := by decide +kernel
theorem dX5_add_0 : decode cX5_add 0 = .ok (.aload_n 0, 1) := by decide +kernel
theorem dX5_add_1 : decode cX5_add 1 = .ok (.getfield 19, 3) := by decide +kernel
theorem dX5_add_4 : decode cX5_add 4 = .ok (.bipush 60, 2) := by decide +kernel
theorem dX5_add_6 : decode cX5_add 6 = .ok (.if_icmp .lt 4, 3) := by decide +kernel
theorem dX5_add_9 : decode cX5_add 9 = .ok (.return_, 1) := by decide +kernel
theorem dX5_add_10 : decode cX5_add 10 = .ok (.aload_n 0, 1) := by decide +kernel
theorem dX5_add_11 : decode cX5_add 11 = .ok (.getfield 9, 3) := by decide +kernel
theorem dX5_add_14 : decode cX5_add 14 = .ok (.aload_n 0, 1) := by decide +kernel
theorem dX5_add_15 : decode cX5_add 15 = .ok (.getfield 19, 3) := by decide +kernel
theorem dX5_add_18 : decode cX5_add 18 = .ok (.iload_n 1, 1) := by decide +kernel
theorem dX5_add_19 : decode cX5_add 19 = .ok (.iastore, 1) := by decide +kernel
theorem dX5_add_20 : decode cX5_add 20 = .ok (.aload_n 0, 1) := by decide +kernel
theorem dX5_add_21 : decode cX5_add 21 = .ok (.getfield 13, 3) := by decide +kernel
theorem dX5_add_24 : decode cX5_add 24 = .ok (.aload_n 0, 1) := by decide +kernel
theorem dX5_add_25 : decode cX5_add 25 = .ok (.getfield 19, 3) := by decide +kernel
theorem dX5_add_28 : decode cX5_add 28 = .ok (.iload_n 2, 1) := by decide +kernel
theorem dX5_add_29 : decode cX5_add 29 = .ok (.iastore, 1) := by decide +kernel
theorem dX5_add_30 : decode cX5_add 30 = .ok (.aload_n 0, 1) := by decide +kernel
theorem dX5_add_31 : decode cX5_add 31 = .ok (.getfield 16, 3) := by decide +kernel
theorem dX5_add_34 : decode cX5_add 34 = .ok (.aload_n 0, 1) := by decide +kernel
theorem dX5_add_35 : decode cX5_add 35 = .ok (.getfield 19, 3) := by decide +kernel
theorem dX5_add_38 : decode cX5_add 38 = .ok (.iconst 1, 1) := by decide +kernel
theorem dX5_add_39 : decode cX5_add 39 = .ok (.iadd, 1) := by decide +kernel
theorem dX5_add_40 : decode cX5_add 40 = .ok (.aload_n 0, 1) := by decide +kernel
theorem dX5_add_41 : decode cX5_add 41 = .ok (.getfield 16, 3) := by decide +kernel
theorem dX5_add_44 : decode cX5_add 44 = .ok (.aload_n 0, 1) := by decide +kernel
theorem dX5_add_45 : decode cX5_add 45 = .ok (.getfield 19, 3) := by decide +kernel
theorem dX5_add_48 : decode cX5_add 48 = .ok (.iaload, 1) := by decide +kernel
theorem dX5_add_49 : decode cX5_add 49 = .ok (.iload_n 2, 1) := by decide +kernel
theorem dX5_add_50 : decode cX5_add 50 = .ok (.iconst 1, 1) := by decide +kernel
theorem dX5_add_51 : decode cX5_add 51 = .ok (.iand, 1) := by decide +kernel
theorem dX5_add_52 : decode cX5_add 52 = .ok (.iadd, 1) := by decide +kernel
theorem dX5_add_53 : decode cX5_add 53 = .ok (.iastore, 1) := by decide +kernel
theorem dX5_add_54 : decode cX5_add 54 = .ok (.aload_n 0, 1) := by decide +kernel
theorem dX5_add_55 : decode cX5_add 55 = .ok (.dup, 1) := by decide +kernel
theorem dX5_add_56 : decode cX5_add 56 = .ok (.getfield 19, 3) := by decide +kernel
theorem dX5_add_59 : decode cX5_add 59 = .ok (.iconst 1, 1) := by decide +kernel
theorem dX5_add_60 : decode cX5_add 60 = .ok (.iadd, 1) := by decide +kernel
theorem dX5_add_61 : decode cX5_add 61 = .ok (.putfield 19, 3) := by decide +kernel
theorem dX5_add_64 : decode cX5_add 64 = .ok (.return_, 1) := by decide +kernel
theorem dX5_addSound_0 : decode cX5_addSound 0 = .ok (.iconst 0, 1) := by decide +kernel
theorem dX5_addSound_1 : decode cX5_addSound 1 = .ok (.istore_n 3, 1) := by decide +kernel
theorem dX5_addSound_2 : decode cX5_addSound 2 = .ok (.iload_n 3, 1) := by decide +kernel
theorem dX5_addSound_3 : decode cX5_addSound 3 = .ok (.iload_n 2, 1) := by decide +kernel
theorem dX5_addSound_4 : decode cX5_addSound 4 = .ok (.if_icmp .ge 23, 3) := by decide +kernel
theorem dX5_addSound_7 : decode cX5_addSound 7 = .ok (.aload_n 0, 1) := by decide +kernel
theorem dX5_addSound_8 : decode cX5_addSound 8 = .ok (.iload_n 1, 1) := by decide +kernel
theorem dX5_addSound_9 : decode cX5_addSound 9 = .ok (.iload_n 3, 1) := by decide +kernel
theorem dX5_addSound_10 : decode cX5_addSound 10 = .ok (.ifCond .ne 7, 3) := by decide +kernel
theorem dX5_addSound_13 : decode cX5_addSound 13 = .ok (.iconst 4, 1) := by decide +kernel
theorem dX5_addSound_14 : decode cX5_addSound 14 = .ok (.goto 4, 3) := by decide +kernel
theorem dX5_addSound_17 : decode cX5_addSound 17 = .ok (.iconst 0, 1) := by decide +kernel
theorem dX5_addSound_18 : decode cX5_addSound 18 = .ok (.invokevirtual 34, 3) := by decide +kernel
theorem dX5_addSound_21 : decode cX5_addSound 21 = .ok (.iinc 3 1, 3) := by decide +kernel
theorem dX5_addSound_24 : decode cX5_addSound 24 = .ok (.goto (-22), 3) := by decide +kernel
theorem dX5_addSound_27 : decode cX5_addSound 27 = .ok (.return_, 1) := by decide +kernel
theorem dX5_markLast_0 : decode cX5_markLast 0 = .ok (.aload_n 0, 1) := by decide +kernel
theorem dX5_markLast_1 : decode cX5_markLast 1 = .ok (.getfield 19, 3) := by decide +kernel
theorem dX5_markLast_4 : decode cX5_markLast 4 = .ok (.ifCond .le 52, 3) := by decide +kernel
theorem dX5_markLast_7 : decode cX5_markLast 7 = .ok (.aload_n 0, 1) := by decide +kernel
theorem dX5_markLast_8 : decode cX5_markLast 8 = .ok (.getfield 13, 3) := by decide +kernel
theorem dX5_markLast_11 : decode cX5_markLast 11 = .ok (.aload_n 0, 1) := by decide +kernel
theorem dX5_markLast_12 : decode cX5_markLast 12 = .ok (.getfield 19, 3) := by decide +kernel
theorem dX5_markLast_15 : decode cX5_markLast 15 = .ok (.iconst 1, 1) := by decide +kernel
theorem dX5_markLast_16 : decode cX5_markLast 16 = .ok (.isub, 1) := by decide +kernel
theorem dX5_markLast_17 : decode cX5_markLast 17 = .ok (.dup2, 1) := by decide +kernel
theorem dX5_markLast_18 : decode cX5_markLast 18 = .ok (.iaload, 1) := by decide +kernel
theorem dX5_markLast_19 : decode cX5_markLast 19 = .ok (.iload_n 1, 1) := by decide +kernel
theorem dX5_markLast_20 : decode cX5_markLast 20 = .ok (.ior, 1) := by decide +kernel
theorem dX5_markLast_21 : decode cX5_markLast 21 = .ok (.iastore, 1) := by decide +kernel
theorem dX5_markLast_22 : decode cX5_markLast 22 = .ok (.aload_n 0, 1) := by decide +kernel
theorem dX5_markLast_23 : decode cX5_markLast 23 = .ok (.getfield 16, 3) := by decide +kernel
theorem dX5_markLast_26 : decode cX5_markLast 26 = .ok (.aload_n 0, 1) := by decide +kernel
theorem dX5_markLast_27 : decode cX5_markLast 27 = .ok (.getfield 19, 3) := by decide +kernel
theorem dX5_markLast_30 : decode cX5_markLast 30 = .ok (.aload_n 0, 1) := by decide +kernel
theorem dX5_markLast_31 : decode cX5_markLast 31 = .ok (.getfield 16, 3) := by decide +kernel
theorem dX5_markLast_34 : decode cX5_markLast 34 = .ok (.aload_n 0, 1) := by decide +kernel
theorem dX5_markLast_35 : decode cX5_markLast 35 = .ok (.getfield 19, 3) := by decide +kernel
theorem dX5_markLast_38 : decode cX5_markLast 38 = .ok (.iconst 1, 1) := by decide +kernel
theorem dX5_markLast_39 : decode cX5_markLast 39 = .ok (.isub, 1) := by decide +kernel
theorem dX5_markLast_40 : decode cX5_markLast 40 = .ok (.iaload, 1) := by decide +kernel
theorem dX5_markLast_41 : decode cX5_markLast 41 = .ok (.aload_n 0, 1) := by decide +kernel
theorem dX5_markLast_42 : decode cX5_markLast 42 = .ok (.getfield 13, 3) := by decide +kernel
theorem dX5_markLast_45 : decode cX5_markLast 45 = .ok (.aload_n 0, 1) := by decide +kernel
theorem dX5_markLast_46 : decode cX5_markLast 46 = .ok (.getfield 19, 3) := by decide +kernel
theorem dX5_markLast_49 : decode cX5_markLast 49 = .ok (.iconst 1, 1) := by decide +kernel
theorem dX5_markLast_50 : decode cX5_markLast 50 = .ok (.isub, 1) := by decide +kernel
theorem dX5_markLast_51 : decode cX5_markLast 51 = .ok (.iaload, 1) := by decide +kernel
theorem dX5_markLast_52 : decode cX5_markLast 52 = .ok (.iconst 1, 1) := by decide +kernel
theorem dX5_markLast_53 : decode cX5_markLast 53 = .ok (.iand, 1) := by decide +kernel
theorem dX5_markLast_54 : decode cX5_markLast 54 = .ok (.iadd, 1) := by decide +kernel
theorem dX5_markLast_55 : decode cX5_markLast 55 = .ok (.iastore, 1) := by decide +kernel
theorem dX5_markLast_56 : decode cX5_markLast 56 = .ok (.return_, 1) := by decide +kernel
theorem dX5_repeat_0 : decode cX5_repeat 0 = .ok (.aload_n 0, 1) := by decide +kernel
theorem dX5_repeat_1 : decode cX5_repeat 1 = .ok (.getfield 19, 3) := by decide +kernel
theorem dX5_repeat_4 : decode cX5_repeat 4 = .ok (.iload_n 1, 1) := by decide +kernel
theorem dX5_repeat_5 : decode cX5_repeat 5 = .ok (.isub, 1) := by decide +kernel
theorem dX5_repeat_6 : decode cX5_repeat 6 = .ok (.istore_n 3, 1) := by decide +kernel
theorem dX5_repeat_7 : decode cX5_repeat 7 = .ok (.iconst 0, 1) := by decide +kernel
theorem dX5_repeat_8 : decode cX5_repeat 8 = .ok (.istore 4, 2) := by decide +kernel
theorem dX5_repeat_10 : decode cX5_repeat 10 = .ok (.iload 4, 2) := by decide +kernel
theorem dX5_repeat_12 : decode cX5_repeat 12 = .ok (.iload_n 3, 1) := by decide +kernel
theorem dX5_repeat_13 : decode cX5_repeat 13 = .ok (.iload_n 2, 1) := by decide +kernel
theorem dX5_repeat_14 : decode cX5_repeat 14 = .ok (.iconst 1, 1) := by decide +kernel
theorem dX5_repeat_15 : decode cX5_repeat 15 = .ok (.isub, 1) := by decide +kernel
theorem dX5_repeat_16 : decode cX5_repeat 16 = .ok (.imul, 1) := by decide +kernel
theorem dX5_repeat_17 : decode cX5_repeat 17 = .ok (.if_icmp .ge 42, 3) := by decide +kernel
theorem dX5_repeat_20 : decode cX5_repeat 20 = .ok (.aload_n 0, 1) := by decide +kernel
theorem dX5_repeat_21 : decode cX5_repeat 21 = .ok (.iload_n 1, 1) := by decide +kernel
theorem dX5_repeat_22 : decode cX5_repeat 22 = .ok (.iload 4, 2) := by decide +kernel
theorem dX5_repeat_24 : decode cX5_repeat 24 = .ok (.iadd, 1) := by decide +kernel
theorem dX5_repeat_25 : decode cX5_repeat 25 = .ok (.invokevirtual 23, 3) := by decide +kernel
theorem dX5_repeat_28 : decode cX5_repeat 28 = .ok (.ifCond .eq 25, 3) := by decide +kernel
theorem dX5_repeat_31 : decode cX5_repeat 31 = .ok (.aload_n 0, 1) := by decide +kernel
theorem dX5_repeat_32 : decode cX5_repeat 32 = .ok (.aload_n 0, 1) := by decide +kernel
theorem dX5_repeat_33 : decode cX5_repeat 33 = .ok (.getfield 9, 3) := by decide +kernel
theorem dX5_repeat_36 : decode cX5_repeat 36 = .ok (.iload_n 1, 1) := by decide +kernel
theorem dX5_repeat_37 : decode cX5_repeat 37 = .ok (.iload 4, 2) := by decide +kernel
theorem dX5_repeat_39 : decode cX5_repeat 39 = .ok (.iadd, 1) := by decide +kernel
theorem dX5_repeat_40 : decode cX5_repeat 40 = .ok (.iaload, 1) := by decide +kernel
theorem dX5_repeat_41 : decode cX5_repeat 41 = .ok (.aload_n 0, 1) := by decide +kernel
theorem dX5_repeat_42 : decode cX5_repeat 42 = .ok (.getfield 13, 3) := by decide +kernel
theorem dX5_repeat_45 : decode cX5_repeat 45 = .ok (.iload_n 1, 1) := by decide +kernel
theorem dX5_repeat_46 : decode cX5_repeat 46 = .ok (.iload 4, 2) := by decide +kernel
theorem dX5_repeat_48 : decode cX5_repeat 48 = .ok (.iadd, 1) := by decide +kernel
theorem dX5_repeat_49 : decode cX5_repeat 49 = .ok (.iaload, 1) := by decide +kernel
theorem dX5_repeat_50 : decode cX5_repeat 50 = .ok (.invokevirtual 34, 3) := by decide +kernel
theorem dX5_repeat_53 : decode cX5_repeat 53 = .ok (.iinc 4 1, 3) := by decide +kernel
theorem dX5_repeat_56 : decode cX5_repeat 56 = .ok (.goto (-46), 3) := by decide +kernel
theorem dX5_repeat_59 : decode cX5_repeat 59 = .ok (.return_, 1) := by decide +kernel
