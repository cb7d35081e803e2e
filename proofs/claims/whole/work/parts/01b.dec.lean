theorem dX0_init_0 : decode cX0_init 0 = .ok (.aload_n 0, 1) := by decide +kernel
theorem dX0_init_1 : decode cX0_init 1 = .ok (.invokespecial 3, 3) := by decide +kernel
theorem dX0_init_4 : decode cX0_init 4 = .ok (.aload_n 0, 1) := by decide +kernel
theorem dX0_init_5 : decode cX0_init 5 = .ok (.iconst 0, 1) := by decide +kernel
theorem dX0_init_6 : decode cX0_init 6 = .ok (.putfield 9, 3) := by decide +kernel
theorem dX0_init_9 : decode cX0_init 9 = .ok (.aload_n 0, 1) := by decide +kernel
theorem dX0_init_10 : decode cX0_init 10 = .ok (.iconst 0, 1) := by decide +kernel
theorem dX0_init_11 : decode cX0_init 11 = .ok (.putfield 15, 3) := by decide +kernel
theorem dX0_init_14 : decode cX0_init 14 = .ok (.aload_n 0, 1) := by decide +kernel
theorem dX0_init_15 : decode cX0_init 15 = .ok (.iconst 0, 1) := by decide +kernel
theorem dX0_init_16 : decode cX0_init 16 = .ok (.putfield 18, 3) := by decide +kernel
theorem dX0_init_19 : decode cX0_init 19 = .ok (.aload_n 0, 1) := by decide +kernel
theorem dX0_init_20 : decode cX0_init 20 = .ok (.iconst 1, 1) := by decide +kernel
theorem dX0_init_21 : decode cX0_init 21 = .ok (.putfield 21, 3) := by decide +kernel
theorem dX0_init_24 : decode cX0_init 24 = .ok (.aload_n 0, 1) := by decide +kernel
theorem dX0_init_25 : decode cX0_init 25 = .ok (.iconst (-1), 1) := by decide +kernel
theorem dX0_init_26 : decode cX0_init 26 = .ok (.putfield 24, 3) := by decide +kernel
theorem dX0_init_29 : decode cX0_init 29 = .ok (.return_, 1) := by decide +kernel
theorem dX0_begin_0 : decode cX0_begin 0 = .ok (.aload_n 0, 1) := by decide +kernel
theorem dX0_begin_1 : decode cX0_begin 1 = .ok (.iload_n 1, 1) := by decide +kernel
theorem dX0_begin_2 : decode cX0_begin 2 = .ok (.putfield 9, 3) := by decide +kernel
theorem dX0_begin_5 : decode cX0_begin 5 = .ok (.aload_n 0, 1) := by decide +kernel
theorem dX0_begin_6 : decode cX0_begin 6 = .ok (.iload_n 2, 1) := by decide +kernel
theorem dX0_begin_7 : decode cX0_begin 7 = .ok (.putfield 15, 3) := by decide +kernel
theorem dX0_begin_10 : decode cX0_begin 10 = .ok (.aload_n 0, 1) := by decide +kernel
theorem dX0_begin_11 : decode cX0_begin 11 = .ok (.iload_n 3, 1) := by decide +kernel
theorem dX0_begin_12 : decode cX0_begin 12 = .ok (.putfield 18, 3) := by decide +kernel
theorem dX0_begin_15 : decode cX0_begin 15 = .ok (.aload_n 0, 1) := by decide +kernel
theorem dX0_begin_16 : decode cX0_begin 16 = .ok (.iload 4, 2) := by decide +kernel
theorem dX0_begin_18 : decode cX0_begin 18 = .ok (.putfield 21, 3) := by decide +kernel
theorem dX0_begin_21 : decode cX0_begin 21 = .ok (.aload_n 0, 1) := by decide +kernel
theorem dX0_begin_22 : decode cX0_begin 22 = .ok (.iconst (-1), 1) := by decide +kernel
theorem dX0_begin_23 : decode cX0_begin 23 = .ok (.putfield 24, 3) := by decide +kernel
theorem dX0_begin_26 : decode cX0_begin 26 = .ok (.return_, 1) := by decide +kernel
theorem dX0_become_0 : decode cX0_become 0 = .ok (.aload_n 0, 1) := by decide +kernel
theorem dX0_become_1 : decode cX0_become 1 = .ok (.aload_n 1, 1) := by decide +kernel
theorem dX0_become_2 : decode cX0_become 2 = .ok (.getfield 9, 3) := by decide +kernel
theorem dX0_become_5 : decode cX0_become 5 = .ok (.aload_n 1, 1) := by decide +kernel
theorem dX0_become_6 : decode cX0_become 6 = .ok (.getfield 15, 3) := by decide +kernel
theorem dX0_become_9 : decode cX0_become 9 = .ok (.aload_n 1, 1) := by decide +kernel
theorem dX0_become_10 : decode cX0_become 10 = .ok (.getfield 18, 3) := by decide +kernel
theorem dX0_become_13 : decode cX0_become 13 = .ok (.aload_n 1, 1) := by decide +kernel
theorem dX0_become_14 : decode cX0_become 14 = .ok (.getfield 21, 3) := by decide +kernel
theorem dX0_become_17 : decode cX0_become 17 = .ok (.invokevirtual 27, 3) := by decide +kernel
theorem dX0_become_20 : decode cX0_become 20 = .ok (.aload_n 0, 1) := by decide +kernel
theorem dX0_become_21 : decode cX0_become 21 = .ok (.aload_n 1, 1) := by decide +kernel
theorem dX0_become_22 : decode cX0_become 22 = .ok (.getfield 24, 3) := by decide +kernel
theorem dX0_become_25 : decode cX0_become 25 = .ok (.putfield 24, 3) := by decide +kernel
theorem dX0_become_28 : decode cX0_become 28 = .ok (.return_, 1) := by decide +kernel
theorem dX0_isOfKind_0 : decode cX0_isOfKind 0 = .ok (.iload_n 1, 1) := by decide +kernel
theorem dX0_isOfKind_1 : decode cX0_isOfKind 1 = .ok (.ifCond .eq 24, 3) := by decide +kernel
theorem dX0_isOfKind_4 : decode cX0_isOfKind 4 = .ok (.iload_n 1, 1) := by decide +kernel
theorem dX0_isOfKind_5 : decode cX0_isOfKind 5 = .ok (.aload_n 0, 1) := by decide +kernel
theorem dX0_isOfKind_6 : decode cX0_isOfKind 6 = .ok (.getfield 9, 3) := by decide +kernel
theorem dX0_isOfKind_9 : decode cX0_isOfKind 9 = .ok (.if_icmp .eq 16, 3) := by decide +kernel
theorem dX0_isOfKind_12 : decode cX0_isOfKind 12 = .ok (.iload_n 1, 1) := by decide +kernel
theorem dX0_isOfKind_13 : decode cX0_isOfKind 13 = .ok (.iconst 2, 1) := by decide +kernel
theorem dX0_isOfKind_14 : decode cX0_isOfKind 14 = .ok (.if_icmp .ne 15, 3) := by decide +kernel
theorem dX0_isOfKind_17 : decode cX0_isOfKind 17 = .ok (.aload_n 0, 1) := by decide +kernel
theorem dX0_isOfKind_18 : decode cX0_isOfKind 18 = .ok (.getfield 9, 3) := by decide +kernel
theorem dX0_isOfKind_21 : decode cX0_isOfKind 21 = .ok (.iconst 3, 1) := by decide +kernel
theorem dX0_isOfKind_22 : decode cX0_isOfKind 22 = .ok (.if_icmp .ne 7, 3) := by decide +kernel
theorem dX0_isOfKind_25 : decode cX0_isOfKind 25 = .ok (.iconst 1, 1) := by decide +kernel
theorem dX0_isOfKind_26 : decode cX0_isOfKind 26 = .ok (.goto 4, 3) := by decide +kernel
theorem dX0_isOfKind_29 : decode cX0_isOfKind 29 = .ok (.iconst 0, 1) := by decide +kernel
theorem dX0_isOfKind_30 : decode cX0_isOfKind 30 = .ok (.ireturn, 1) := by decide +kernel
theorem dX0_isJudged_0 : decode cX0_isJudged 0 = .ok (.aload_n 0, 1) := by decide +kernel
theorem dX0_isJudged_1 : decode cX0_isJudged 1 = .ok (.getfield 24, 3) := by decide +kernel
theorem dX0_isJudged_4 : decode cX0_isJudged 4 = .ok (.iconst (-1), 1) := by decide +kernel
theorem dX0_isJudged_5 : decode cX0_isJudged 5 = .ok (.if_icmp .eq 7, 3) := by decide +kernel
theorem dX0_isJudged_8 : decode cX0_isJudged 8 = .ok (.iconst 1, 1) := by decide +kernel
theorem dX0_isJudged_9 : decode cX0_isJudged 9 = .ok (.goto 4, 3) := by decide +kernel
theorem dX0_isJudged_12 : decode cX0_isJudged 12 = .ok (.iconst 0, 1) := by decide +kernel
theorem dX0_isJudged_13 : decode cX0_isJudged 13 = .ok (.ireturn, 1) := by decide +kernel
theorem dX0_isOpenOf_0 : decode cX0_isOpenOf 0 = .ok (.aload_n 0, 1) := by decide +kernel
theorem dX0_isOpenOf_1 : decode cX0_isOpenOf 1 = .ok (.getfield 15, 3) := by decide +kernel
theorem dX0_isOpenOf_4 : decode cX0_isOpenOf 4 = .ok (.iload_n 1, 1) := by decide +kernel
theorem dX0_isOpenOf_5 : decode cX0_isOpenOf 5 = .ok (.if_icmp .ne 14, 3) := by decide +kernel
theorem dX0_isOpenOf_8 : decode cX0_isOpenOf 8 = .ok (.aload_n 0, 1) := by decide +kernel
theorem dX0_isOpenOf_9 : decode cX0_isOpenOf 9 = .ok (.invokevirtual 31, 3) := by decide +kernel
theorem dX0_isOpenOf_12 : decode cX0_isOpenOf 12 = .ok (.ifCond .ne 7, 3) := by decide +kernel
theorem dX0_isOpenOf_15 : decode cX0_isOpenOf 15 = .ok (.iconst 1, 1) := by decide +kernel
theorem dX0_isOpenOf_16 : decode cX0_isOpenOf 16 = .ok (.goto 4, 3) := by decide +kernel
theorem dX0_isOpenOf_19 : decode cX0_isOpenOf 19 = .ok (.iconst 0, 1) := by decide +kernel
theorem dX0_isOpenOf_20 : decode cX0_isOpenOf 20 = .ok (.ireturn, 1) := by decide +kernel
theorem dX1_init_0 : decode cX1_init 0 = .ok (.aload_n 0, 1) := by decide +kernel
theorem dX1_init_1 : decode cX1_init 1 = .ok (.invokespecial 1, 3) := by decide +kernel
theorem dX1_init_4 : decode cX1_init 4 = .ok (.aload_n 0, 1) := by decide +kernel
theorem dX1_init_5 : decode cX1_init 5 = .ok (.iconst 0, 1) := by decide +kernel
theorem dX1_init_6 : decode cX1_init 6 = .ok (.putfield 7, 3) := by decide +kernel
theorem dX1_init_9 : decode cX1_init 9 = .ok (.aload_n 0, 1) := by decide +kernel
theorem dX1_init_10 : decode cX1_init 10 = .ok (.iconst 0, 1) := by decide +kernel
theorem dX1_init_11 : decode cX1_init 11 = .ok (.putfield 13, 3) := by decide +kernel
theorem dX1_init_14 : decode cX1_init 14 = .ok (.aload_n 0, 1) := by decide +kernel
theorem dX1_init_15 : decode cX1_init 15 = .ok (.iconst 0, 1) := by decide +kernel
theorem dX1_init_16 : decode cX1_init 16 = .ok (.putfield 16, 3) := by decide +kernel
theorem dX1_init_19 : decode cX1_init 19 = .ok (.aload_n 0, 1) := by decide +kernel
theorem dX1_init_20 : decode cX1_init 20 = .ok (.iconst 0, 1) := by decide +kernel
theorem dX1_init_21 : decode cX1_init 21 = .ok (.putfield 19, 3) := by decide +kernel
theorem dX1_init_24 : decode cX1_init 24 = .ok (.aload_n 0, 1) := by decide +kernel
theorem dX1_init_25 : decode cX1_init 25 = .ok (.iconst 0, 1) := by decide +kernel
theorem dX1_init_26 : decode cX1_init 26 = .ok (.putfield 22, 3) := by decide +kernel
theorem dX1_init_29 : decode cX1_init 29 = .ok (.aload_n 0, 1) := by decide +kernel
theorem dX1_init_30 : decode cX1_init 30 = .ok (.iconst 0, 1) := by decide +kernel
theorem dX1_init_31 : decode cX1_init 31 = .ok (.putfield 25, 3) := by decide +kernel
theorem dX1_init_34 : decode cX1_init 34 = .ok (.return_, 1) := by decide +kernel
theorem dX1_begin_0 : decode cX1_begin 0 = .ok (.aload_n 0, 1) := by decide +kernel
theorem dX1_begin_1 : decode cX1_begin 1 = .ok (.iload_n 1, 1) := by decide +kernel
theorem dX1_begin_2 : decode cX1_begin 2 = .ok (.putfield 7, 3) := by decide +kernel
theorem dX1_begin_5 : decode cX1_begin 5 = .ok (.aload_n 0, 1) := by decide +kernel
theorem dX1_begin_6 : decode cX1_begin 6 = .ok (.iload_n 2, 1) := by decide +kernel
theorem dX1_begin_7 : decode cX1_begin 7 = .ok (.putfield 13, 3) := by decide +kernel
theorem dX1_begin_10 : decode cX1_begin 10 = .ok (.aload_n 0, 1) := by decide +kernel
theorem dX1_begin_11 : decode cX1_begin 11 = .ok (.iload_n 3, 1) := by decide +kernel
theorem dX1_begin_12 : decode cX1_begin 12 = .ok (.putfield 16, 3) := by decide +kernel
theorem dX1_begin_15 : decode cX1_begin 15 = .ok (.aload_n 0, 1) := by decide +kernel
theorem dX1_begin_16 : decode cX1_begin 16 = .ok (.iload 4, 2) := by decide +kernel
theorem dX1_begin_18 : decode cX1_begin 18 = .ok (.putfield 19, 3) := by decide +kernel
theorem dX1_begin_21 : decode cX1_begin 21 = .ok (.aload_n 0, 1) := by decide +kernel
theorem dX1_begin_22 : decode cX1_begin 22 = .ok (.iload 5, 2) := by decide +kernel
theorem dX1_begin_24 : decode cX1_begin 24 = .ok (.putfield 22, 3) := by decide +kernel
theorem dX1_begin_27 : decode cX1_begin 27 = .ok (.return_, 1) := by decide +kernel
theorem dX1_become_0 : decode cX1_become 0 = .ok (.aload_n 0, 1) := by decide +kernel
theorem dX1_become_1 : decode cX1_become 1 = .ok (.aload_n 1, 1) := by decide +kernel
theorem dX1_become_2 : decode cX1_become 2 = .ok (.getfield 7, 3) := by decide +kernel
theorem dX1_become_5 : decode cX1_become 5 = .ok (.aload_n 1, 1) := by decide +kernel
theorem dX1_become_6 : decode cX1_become 6 = .ok (.getfield 13, 3) := by decide +kernel
theorem dX1_become_9 : decode cX1_become 9 = .ok (.aload_n 1, 1) := by decide +kernel
theorem dX1_become_10 : decode cX1_become 10 = .ok (.getfield 16, 3) := by decide +kernel
theorem dX1_become_13 : decode cX1_become 13 = .ok (.aload_n 1, 1) := by decide +kernel
theorem dX1_become_14 : decode cX1_become 14 = .ok (.getfield 19, 3) := by decide +kernel
theorem dX1_become_17 : decode cX1_become 17 = .ok (.aload_n 1, 1) := by decide +kernel
theorem dX1_become_18 : decode cX1_become 18 = .ok (.getfield 22, 3) := by decide +kernel
theorem dX1_become_21 : decode cX1_become 21 = .ok (.invokevirtual 28, 3) := by decide +kernel
theorem dX1_become_24 : decode cX1_become 24 = .ok (.aload_n 0, 1) := by decide +kernel
theorem dX1_become_25 : decode cX1_become 25 = .ok (.aload_n 1, 1) := by decide +kernel
theorem dX1_become_26 : decode cX1_become 26 = .ok (.getfield 25, 3) := by decide +kernel
theorem dX1_become_29 : decode cX1_become 29 = .ok (.putfield 25, 3) := by decide +kernel
theorem dX1_become_32 : decode cX1_become 32 = .ok (.return_, 1) := by decide +kernel
theorem dX1_tells_0 : decode cX1_tells 0 = .ok (.aload_n 0, 1) := by decide +kernel
theorem dX1_tells_1 : decode cX1_tells 1 = .ok (.getfield 7, 3) := by decide +kernel
theorem dX1_tells_4 : decode cX1_tells 4 = .ok (.iload_n 1, 1) := by decide +kernel
theorem dX1_tells_5 : decode cX1_tells 5 = .ok (.if_icmp .ne 32, 3) := by decide +kernel
theorem dX1_tells_8 : decode cX1_tells 8 = .ok (.aload_n 0, 1) := by decide +kernel
theorem dX1_tells_9 : decode cX1_tells 9 = .ok (.getfield 13, 3) := by decide +kernel
theorem dX1_tells_12 : decode cX1_tells 12 = .ok (.iload_n 2, 1) := by decide +kernel
theorem dX1_tells_13 : decode cX1_tells 13 = .ok (.if_icmp .ne 24, 3) := by decide +kernel
theorem dX1_tells_16 : decode cX1_tells 16 = .ok (.aload_n 0, 1) := by decide +kernel
theorem dX1_tells_17 : decode cX1_tells 17 = .ok (.getfield 25, 3) := by decide +kernel
theorem dX1_tells_20 : decode cX1_tells 20 = .ok (.iload 4, 2) := by decide +kernel
theorem dX1_tells_22 : decode cX1_tells 22 = .ok (.if_icmp .gt 15, 3) := by decide +kernel
theorem dX1_tells_25 : decode cX1_tells 25 = .ok (.aload_n 0, 1) := by decide +kernel
theorem dX1_tells_26 : decode cX1_tells 26 = .ok (.getfield 22, 3) := by decide +kernel
theorem dX1_tells_29 : decode cX1_tells 29 = .ok (.iload_n 3, 1) := by decide +kernel
theorem dX1_tells_30 : decode cX1_tells 30 = .ok (.if_icmp .gt 7, 3) := by decide +kernel
theorem dX1_tells_33 : decode cX1_tells 33 = .ok (.iconst 1, 1) := by decide +kernel
theorem dX1_tells_34 : decode cX1_tells 34 = .ok (.goto 4, 3) := by decide +kernel
theorem dX1_tells_37 : decode cX1_tells 37 = .ok (.iconst 0, 1) := by decide +kernel
theorem dX1_tells_38 : decode cX1_tells 38 = .ok (.ireturn, 1) := by decide +kernel
theorem dX1_outdoes_0 : decode cX1_outdoes 0 = .ok (.aload_n 0, 1) := by decide +kernel
theorem dX1_outdoes_1 : decode cX1_outdoes 1 = .ok (.getfield 16, 3) := by decide +kernel
theorem dX1_outdoes_4 : decode cX1_outdoes 4 = .ok (.aload_n 1, 1) := by decide +kernel
theorem dX1_outdoes_5 : decode cX1_outdoes 5 = .ok (.getfield 16, 3) := by decide +kernel
theorem dX1_outdoes_8 : decode cX1_outdoes 8 = .ok (.if_icmp .ne 22, 3) := by decide +kernel
theorem dX1_outdoes_11 : decode cX1_outdoes 11 = .ok (.aload_n 0, 1) := by decide +kernel
theorem dX1_outdoes_12 : decode cX1_outdoes 12 = .ok (.getfield 22, 3) := by decide +kernel
theorem dX1_outdoes_15 : decode cX1_outdoes 15 = .ok (.aload_n 1, 1) := by decide +kernel
theorem dX1_outdoes_16 : decode cX1_outdoes 16 = .ok (.getfield 22, 3) := by decide +kernel
theorem dX1_outdoes_19 : decode cX1_outdoes 19 = .ok (.if_icmp .lt 7, 3) := by decide +kernel
theorem dX1_outdoes_22 : decode cX1_outdoes 22 = .ok (.iconst 1, 1) := by decide +kernel
theorem dX1_outdoes_23 : decode cX1_outdoes 23 = .ok (.goto 23, 3) := by decide +kernel
theorem dX1_outdoes_26 : decode cX1_outdoes 26 = .ok (.iconst 0, 1) := by decide +kernel
theorem dX1_outdoes_27 : decode cX1_outdoes 27 = .ok (.goto 19, 3) := by decide +kernel
theorem dX1_outdoes_30 : decode cX1_outdoes 30 = .ok (.aload_n 0, 1) := by decide +kernel
theorem dX1_outdoes_31 : decode cX1_outdoes 31 = .ok (.getfield 16, 3) := by decide +kernel
theorem dX1_outdoes_34 : decode cX1_outdoes 34 = .ok (.aload_n 1, 1) := by decide +kernel
theorem dX1_outdoes_35 : decode cX1_outdoes 35 = .ok (.getfield 16, 3) := by decide +kernel
theorem dX1_outdoes_38 : decode cX1_outdoes 38 = .ok (.if_icmp .le 7, 3) := by decide +kernel
theorem dX1_outdoes_41 : decode cX1_outdoes 41 = .ok (.iconst 1, 1) := by decide +kernel
theorem dX1_outdoes_42 : decode cX1_outdoes 42 = .ok (.goto 4, 3) := by decide +kernel
theorem dX1_outdoes_45 : decode cX1_outdoes 45 = .ok (.iconst 0, 1) := by decide +kernel
theorem dX1_outdoes_46 : decode cX1_outdoes 46 = .ok (.ireturn, 1) := by decide +kernel
theorem dX2_init_0 : decode cX2_init 0 = .ok (.aload_n 0, 1) := by decide +kernel
theorem dX2_init_1 : decode cX2_init 1 = .ok (.invokespecial 1, 3) := by decide +kernel
theorem dX2_init_4 : decode cX2_init 4 = .ok (.aload_n 0, 1) := by decide +kernel
theorem dX2_init_5 : decode cX2_init 5 = .ok (.iconst 0, 1) := by decide +kernel
theorem dX2_init_6 : decode cX2_init 6 = .ok (.putfield 7, 3) := by decide +kernel
theorem dX2_init_9 : decode cX2_init 9 = .ok (.aload_n 0, 1) := by decide +kernel
theorem dX2_init_10 : decode cX2_init 10 = .ok (.iconst 0, 1) := by decide +kernel
theorem dX2_init_11 : decode cX2_init 11 = .ok (.putfield 13, 3) := by decide +kernel
theorem dX2_init_14 : decode cX2_init 14 = .ok (.aload_n 0, 1) := by decide +kernel
theorem dX2_init_15 : decode cX2_init 15 = .ok (.iconst 0, 1) := by decide +kernel
theorem dX2_init_16 : decode cX2_init 16 = .ok (.putfield 16, 3) := by decide +kernel
theorem dX2_init_19 : decode cX2_init 19 = .ok (.aload_n 0, 1) := by decide +kernel
theorem dX2_init_20 : decode cX2_init 20 = .ok (.iconst 0, 1) := by decide +kernel
theorem dX2_init_21 : decode cX2_init 21 = .ok (.putfield 19, 3) := by decide +kernel
theorem dX2_init_24 : decode cX2_init 24 = .ok (.aload_n 0, 1) := by decide +kernel
theorem dX2_init_25 : decode cX2_init 25 = .ok (.iconst 0, 1) := by decide +kernel
theorem dX2_init_26 : decode cX2_init 26 = .ok (.putfield 22, 3) := by decide +kernel
theorem dX2_init_29 : decode cX2_init 29 = .ok (.aload_n 0, 1) := by decide +kernel
theorem dX2_init_30 : decode cX2_init 30 = .ok (.iconst 0, 1) := by decide +kernel
theorem dX2_init_31 : decode cX2_init 31 = .ok (.putfield 25, 3) := by decide +kernel
theorem dX2_init_34 : decode cX2_init 34 = .ok (.aload_n 0, 1) := by decide +kernel
theorem dX2_init_35 : decode cX2_init 35 = .ok (.iconst 0, 1) := by decide +kernel
theorem dX2_init_36 : decode cX2_init 36 = .ok (.putfield 28, 3) := by decide +kernel
theorem dX2_init_39 : decode cX2_init 39 = .ok (.aload_n 0, 1) := by decide +kernel
theorem dX2_init_40 : decode cX2_init 40 = .ok (.iconst 0, 1) := by decide +kernel
theorem dX2_init_41 : decode cX2_init 41 = .ok (.putfield 31, 3) := by decide +kernel
theorem dX2_init_44 : decode cX2_init 44 = .ok (.aload_n 0, 1) := by decide +kernel
theorem dX2_init_45 : decode cX2_init 45 = .ok (.iconst 0, 1) := by decide +kernel
theorem dX2_init_46 : decode cX2_init 46 = .ok (.putfield 34, 3) := by decide +kernel
theorem dX2_init_49 : decode cX2_init 49 = .ok (.aload_n 0, 1) := by decide +kernel
theorem dX2_init_50 : decode cX2_init 50 = .ok (.iconst 0, 1) := by decide +kernel
theorem dX2_init_51 : decode cX2_init 51 = .ok (.putfield 38, 3) := by decide +kernel
theorem dX2_init_54 : decode cX2_init 54 = .ok (.return_, 1) := by decide +kernel
theorem dX2_begin_0 : decode cX2_begin 0 = .ok (.aload_n 0, 1) := by decide +kernel
theorem dX2_begin_1 : decode cX2_begin 1 = .ok (.iload_n 1, 1) := by decide +kernel
theorem dX2_begin_2 : decode cX2_begin 2 = .ok (.putfield 7, 3) := by decide +kernel
theorem dX2_begin_5 : decode cX2_begin 5 = .ok (.aload_n 0, 1) := by decide +kernel
theorem dX2_begin_6 : decode cX2_begin 6 = .ok (.iload_n 2, 1) := by decide +kernel
theorem dX2_begin_7 : decode cX2_begin 7 = .ok (.putfield 13, 3) := by decide +kernel
theorem dX2_begin_10 : decode cX2_begin 10 = .ok (.aload_n 0, 1) := by decide +kernel
theorem dX2_begin_11 : decode cX2_begin 11 = .ok (.iconst 0, 1) := by decide +kernel
theorem dX2_begin_12 : decode cX2_begin 12 = .ok (.putfield 16, 3) := by decide +kernel
theorem dX2_begin_15 : decode cX2_begin 15 = .ok (.aload_n 0, 1) := by decide +kernel
theorem dX2_begin_16 : decode cX2_begin 16 = .ok (.iconst 0, 1) := by decide +kernel
theorem dX2_begin_17 : decode cX2_begin 17 = .ok (.putfield 19, 3) := by decide +kernel
theorem dX2_begin_20 : decode cX2_begin 20 = .ok (.aload_n 0, 1) := by decide +kernel
theorem dX2_begin_21 : decode cX2_begin 21 = .ok (.iconst 0, 1) := by decide +kernel
theorem dX2_begin_22 : decode cX2_begin 22 = .ok (.putfield 22, 3) := by decide +kernel
theorem dX2_begin_25 : decode cX2_begin 25 = .ok (.aload_n 0, 1) := by decide +kernel
theorem dX2_begin_26 : decode cX2_begin 26 = .ok (.iconst 0, 1) := by decide +kernel
theorem dX2_begin_27 : decode cX2_begin 27 = .ok (.putfield 25, 3) := by decide +kernel
theorem dX2_begin_30 : decode cX2_begin 30 = .ok (.aload_n 0, 1) := by decide +kernel
theorem dX2_begin_31 : decode cX2_begin 31 = .ok (.iload_n 2, 1) := by decide +kernel
theorem dX2_begin_32 : decode cX2_begin 32 = .ok (.putfield 28, 3) := by decide +kernel
theorem dX2_begin_35 : decode cX2_begin 35 = .ok (.aload_n 0, 1) := by decide +kernel
theorem dX2_begin_36 : decode cX2_begin 36 = .ok (.iconst 0, 1) := by decide +kernel
theorem dX2_begin_37 : decode cX2_begin 37 = .ok (.putfield 31, 3) := by decide +kernel
theorem dX2_begin_40 : decode cX2_begin 40 = .ok (.aload_n 0, 1) := by decide +kernel
theorem dX2_begin_41 : decode cX2_begin 41 = .ok (.iconst 0, 1) := by decide +kernel
theorem dX2_begin_42 : decode cX2_begin 42 = .ok (.putfield 34, 3) := by decide +kernel
theorem dX2_begin_45 : decode cX2_begin 45 = .ok (.aload_n 0, 1) := by decide +kernel
theorem dX2_begin_46 : decode cX2_begin 46 = .ok (.iconst 0, 1) := by decide +kernel
theorem dX2_begin_47 : decode cX2_begin 47 = .ok (.putfield 38, 3) := by decide +kernel
theorem dX2_begin_50 : decode cX2_begin 50 = .ok (.return_, 1) := by decide +kernel
theorem dX2_become_0 : decode cX2_become 0 = .ok (.aload_n 0, 1) := by decide +kernel
theorem dX2_become_1 : decode cX2_become 1 = .ok (.aload_n 1, 1) := by decide +kernel
theorem dX2_become_2 : decode cX2_become 2 = .ok (.getfield 7, 3) := by decide +kernel
theorem dX2_become_5 : decode cX2_become 5 = .ok (.putfield 7, 3) := by decide +kernel
theorem dX2_become_8 : decode cX2_become 8 = .ok (.aload_n 0, 1) := by decide +kernel
theorem dX2_become_9 : decode cX2_become 9 = .ok (.aload_n 1, 1) := by decide +kernel
theorem dX2_become_10 : decode cX2_become 10 = .ok (.getfield 13, 3) := by decide +kernel
theorem dX2_become_13 : decode cX2_become 13 = .ok (.putfield 13, 3) := by decide +kernel
theorem dX2_become_16 : decode cX2_become 16 = .ok (.aload_n 0, 1) := by decide +kernel
theorem dX2_become_17 : decode cX2_become 17 = .ok (.aload_n 1, 1) := by decide +kernel
theorem dX2_become_18 : decode cX2_become 18 = .ok (.getfield 16, 3) := by decide +kernel
theorem dX2_become_21 : decode cX2_become 21 = .ok (.putfield 16, 3) := by decide +kernel
theorem dX2_become_24 : decode cX2_become 24 = .ok (.aload_n 0, 1) := by decide +kernel
theorem dX2_become_25 : decode cX2_become 25 = .ok (.aload_n 1, 1) := by decide +kernel
theorem dX2_become_26 : decode cX2_become 26 = .ok (.getfield 19, 3) := by decide +kernel
theorem dX2_become_29 : decode cX2_become 29 = .ok (.putfield 19, 3) := by decide +kernel
theorem dX2_become_32 : decode cX2_become 32 = .ok (.aload_n 0, 1) := by decide +kernel
theorem dX2_become_33 : decode cX2_become 33 = .ok (.aload_n 1, 1) := by decide +kernel
theorem dX2_become_34 : decode cX2_become 34 = .ok (.getfield 22, 3) := by decide +kernel
theorem dX2_become_37 : decode cX2_become 37 = .ok (.putfield 22, 3) := by decide +kernel
theorem dX2_become_40 : decode cX2_become 40 = .ok (.aload_n 0, 1) := by decide +kernel
theorem dX2_become_41 : decode cX2_become 41 = .ok (.aload_n 1, 1) := by decide +kernel
theorem dX2_become_42 : decode cX2_become 42 = .ok (.getfield 25, 3) := by decide +kernel
theorem dX2_become_45 : decode cX2_become 45 = .ok (.putfield 25, 3) := by decide +kernel
theorem dX2_become_48 : decode cX2_become 48 = .ok (.aload_n 0, 1) := by decide +kernel
theorem dX2_become_49 : decode cX2_become 49 = .ok (.aload_n 1, 1) := by decide +kernel
theorem dX2_become_50 : decode cX2_become 50 = .ok (.getfield 28, 3) := by decide +kernel
theorem dX2_become_53 : decode cX2_become 53 = .ok (.putfield 28, 3) := by decide +kernel
theorem dX2_become_56 : decode cX2_become 56 = .ok (.aload_n 0, 1) := by decide +kernel
theorem dX2_become_57 : decode cX2_become 57 = .ok (.aload_n 1, 1) := by decide +kernel
theorem dX2_become_58 : decode cX2_become 58 = .ok (.getfield 31, 3) := by decide +kernel
theorem dX2_become_61 : decode cX2_become 61 = .ok (.putfield 31, 3) := by decide +kernel
theorem dX2_become_64 : decode cX2_become 64 = .ok (.aload_n 0, 1) := by decide +kernel
theorem dX2_become_65 : decode cX2_become 65 = .ok (.aload_n 1, 1) := by decide +kernel
theorem dX2_become_66 : decode cX2_become 66 = .ok (.getfield 34, 3) := by decide +kernel
theorem dX2_become_69 : decode cX2_become 69 = .ok (.putfield 34, 3) := by decide +kernel
theorem dX2_become_72 : decode cX2_become 72 = .ok (.aload_n 0, 1) := by decide +kernel
theorem dX2_become_73 : decode cX2_become 73 = .ok (.aload_n 1, 1) := by decide +kernel
theorem dX2_become_74 : decode cX2_become 74 = .ok (.getfield 38, 3) := by decide +kernel
theorem dX2_become_77 : decode cX2_become 77 = .ok (.putfield 38, 3) := by decide +kernel
theorem dX2_become_80 : decode cX2_become 80 = .ok (.return_, 1) := by decide +kernel
theorem dX2_fine_0 : decode cX2_fine 0 = .ok (.aload_n 0, 1) := by decide +kernel
theorem dX2_fine_1 : decode cX2_fine 1 = .ok (.getfield 16, 3) := by decide +kernel
theorem dX2_fine_4 : decode cX2_fine 4 = .ok (.aload_n 0, 1) := by decide +kernel
theorem dX2_fine_5 : decode cX2_fine 5 = .ok (.getfield 19, 3) := by decide +kernel
theorem dX2_fine_8 : decode cX2_fine 8 = .ok (.imul, 1) := by decide +kernel
theorem dX2_fine_9 : decode cX2_fine 9 = .ok (.ireturn, 1) := by decide +kernel
theorem dX2_unpaidCoins_0 : decode cX2_unpaidCoins 0 = .ok (.iconst 0, 1) := by decide +kernel
theorem dX2_unpaidCoins_1 : decode cX2_unpaidCoins 1 = .ok (.aload_n 0, 1) := by decide +kernel
theorem dX2_unpaidCoins_2 : decode cX2_unpaidCoins 2 = .ok (.invokevirtual 41, 3) := by decide +kernel
theorem dX2_unpaidCoins_5 : decode cX2_unpaidCoins 5 = .ok (.aload_n 0, 1) := by decide +kernel
theorem dX2_unpaidCoins_6 : decode cX2_unpaidCoins 6 = .ok (.getfield 22, 3) := by decide +kernel
theorem dX2_unpaidCoins_9 : decode cX2_unpaidCoins 9 = .ok (.isub, 1) := by decide +kernel
theorem dX2_unpaidCoins_10 : decode cX2_unpaidCoins 10 = .ok (.invokestatic 45, 3) := by decide +kernel
theorem dX2_unpaidCoins_13 : decode cX2_unpaidCoins 13 = .ok (.ireturn, 1) := by decide +kernel
theorem dX2_unpaidDays_0 : decode cX2_unpaidDays 0 = .ok (.aload_n 0, 1) := by decide +kernel
theorem dX2_unpaidDays_1 : decode cX2_unpaidDays 1 = .ok (.getfield 19, 3) := by decide +kernel
theorem dX2_unpaidDays_4 : decode cX2_unpaidDays 4 = .ok (.ifCond .ne 7, 3) := by decide +kernel
theorem dX2_unpaidDays_7 : decode cX2_unpaidDays 7 = .ok (.iconst 0, 1) := by decide +kernel
theorem dX2_unpaidDays_8 : decode cX2_unpaidDays 8 = .ok (.goto 19, 3) := by decide +kernel
theorem dX2_unpaidDays_11 : decode cX2_unpaidDays 11 = .ok (.aload_n 0, 1) := by decide +kernel
theorem dX2_unpaidDays_12 : decode cX2_unpaidDays 12 = .ok (.invokevirtual 51, 3) := by decide +kernel
theorem dX2_unpaidDays_15 : decode cX2_unpaidDays 15 = .ok (.aload_n 0, 1) := by decide +kernel
theorem dX2_unpaidDays_16 : decode cX2_unpaidDays 16 = .ok (.getfield 19, 3) := by decide +kernel
theorem dX2_unpaidDays_19 : decode cX2_unpaidDays 19 = .ok (.iadd, 1) := by decide +kernel
theorem dX2_unpaidDays_20 : decode cX2_unpaidDays 20 = .ok (.iconst 1, 1) := by decide +kernel
theorem dX2_unpaidDays_21 : decode cX2_unpaidDays 21 = .ok (.isub, 1) := by decide +kernel
theorem dX2_unpaidDays_22 : decode cX2_unpaidDays 22 = .ok (.aload_n 0, 1) := by decide +kernel
theorem dX2_unpaidDays_23 : decode cX2_unpaidDays 23 = .ok (.getfield 19, 3) := by decide +kernel
theorem dX2_unpaidDays_26 : decode cX2_unpaidDays 26 = .ok (.idiv, 1) := by decide +kernel
theorem dX2_unpaidDays_27 : decode cX2_unpaidDays 27 = .ok (.ireturn, 1) := by decide +kernel
theorem dX2_appealDays_0 : decode cX2_appealDays 0 = .ok (.aload_n 0, 1) := by decide +kernel
theorem dX2_appealDays_1 : decode cX2_appealDays 1 = .ok (.getfield 16, 3) := by decide +kernel
theorem dX2_appealDays_4 : decode cX2_appealDays 4 = .ok (.istore_n 2, 1) := by decide +kernel
theorem dX2_appealDays_5 : decode cX2_appealDays 5 = .ok (.aload_n 0, 1) := by decide +kernel
theorem dX2_appealDays_6 : decode cX2_appealDays 6 = .ok (.iload_n 1, 1) := by decide +kernel
theorem dX2_appealDays_7 : decode cX2_appealDays 7 = .ok (.putfield 16, 3) := by decide +kernel
theorem dX2_appealDays_10 : decode cX2_appealDays 10 = .ok (.aload_n 0, 1) := by decide +kernel
theorem dX2_appealDays_11 : decode cX2_appealDays 11 = .ok (.iconst 1, 1) := by decide +kernel
theorem dX2_appealDays_12 : decode cX2_appealDays 12 = .ok (.putfield 34, 3) := by decide +kernel
theorem dX2_appealDays_15 : decode cX2_appealDays 15 = .ok (.iload_n 2, 1) := by decide +kernel
theorem dX2_appealDays_16 : decode cX2_appealDays 16 = .ok (.ireturn, 1) := by decide +kernel
theorem dX2_appealSum_0 : decode cX2_appealSum 0 = .ok (.aload_n 0, 1) := by decide +kernel
theorem dX2_appealSum_1 : decode cX2_appealSum 1 = .ok (.getfield 19, 3) := by decide +kernel
theorem dX2_appealSum_4 : decode cX2_appealSum 4 = .ok (.istore_n 2, 1) := by decide +kernel
theorem dX2_appealSum_5 : decode cX2_appealSum 5 = .ok (.aload_n 0, 1) := by decide +kernel
theorem dX2_appealSum_6 : decode cX2_appealSum 6 = .ok (.iload_n 1, 1) := by decide +kernel
theorem dX2_appealSum_7 : decode cX2_appealSum 7 = .ok (.putfield 19, 3) := by decide +kernel
theorem dX2_appealSum_10 : decode cX2_appealSum 10 = .ok (.aload_n 0, 1) := by decide +kernel
theorem dX2_appealSum_11 : decode cX2_appealSum 11 = .ok (.iconst 1, 1) := by decide +kernel
theorem dX2_appealSum_12 : decode cX2_appealSum 12 = .ok (.putfield 38, 3) := by decide +kernel
theorem dX2_appealSum_15 : decode cX2_appealSum 15 = .ok (.iload_n 2, 1) := by decide +kernel
theorem dX2_appealSum_16 : decode cX2_appealSum 16 = .ok (.ireturn, 1) := by decide +kernel
theorem dX3_init_0 : decode cX3_init 0 = .ok (.aload_n 0, 1) := by decide +kernel
theorem dX3_init_1 : decode cX3_init 1 = .ok (.invokespecial 3, 3) := by decide +kernel
theorem dX3_init_4 : decode cX3_init 4 = .ok (.aload_n 0, 1) := by decide +kernel
theorem dX3_init_5 : decode cX3_init 5 = .ok (.bipush 120, 2) := by decide +kernel
theorem dX3_init_7 : decode cX3_init 7 = .ok (.newarray .int, 2) := by decide +kernel
theorem dX3_init_9 : decode cX3_init 9 = .ok (.putfield 9, 3) := by decide +kernel
theorem dX3_init_12 : decode cX3_init 12 = .ok (.aload_n 0, 1) := by decide +kernel
theorem dX3_init_13 : decode cX3_init 13 = .ok (.iconst 3, 1) := by decide +kernel
theorem dX3_init_14 : decode cX3_init 14 = .ok (.newarray .int, 2) := by decide +kernel
theorem dX3_init_16 : decode cX3_init 16 = .ok (.putfield 15, 3) := by decide +kernel
theorem dX3_init_19 : decode cX3_init 19 = .ok (.aload_n 0, 1) := by decide +kernel
theorem dX3_init_20 : decode cX3_init 20 = .ok (.iconst 0, 1) := by decide +kernel
theorem dX3_init_21 : decode cX3_init 21 = .ok (.putfield 18, 3) := by decide +kernel
theorem dX3_init_24 : decode cX3_init 24 = .ok (.aload_n 0, 1) := by decide +kernel
theorem dX3_init_25 : decode cX3_init 25 = .ok (.iconst 0, 1) := by decide +kernel
theorem dX3_init_26 : decode cX3_init 26 = .ok (.putfield 22, 3) := by decide +kernel
theorem dX3_init_29 : decode cX3_init 29 = .ok (.return_, 1) := by decide +kernel
theorem dX3_become_0 : decode cX3_become 0 = .ok (.aload_n 1, 1) := by decide +kernel
theorem dX3_become_1 : decode cX3_become 1 = .ok (.getfield 9, 3) := by decide +kernel
theorem dX3_become_4 : decode cX3_become 4 = .ok (.iconst 0, 1) := by decide +kernel
theorem dX3_become_5 : decode cX3_become 5 = .ok (.aload_n 0, 1) := by decide +kernel
theorem dX3_become_6 : decode cX3_become 6 = .ok (.getfield 9, 3) := by decide +kernel
theorem dX3_become_9 : decode cX3_become 9 = .ok (.iconst 0, 1) := by decide +kernel
theorem dX3_become_10 : decode cX3_become 10 = .ok (.bipush 120, 2) := by decide +kernel
theorem dX3_become_12 : decode cX3_become 12 = .ok (.invokestatic 25, 3) := by decide +kernel
theorem dX3_become_15 : decode cX3_become 15 = .ok (.aload_n 1, 1) := by decide +kernel
theorem dX3_become_16 : decode cX3_become 16 = .ok (.getfield 15, 3) := by decide +kernel
theorem dX3_become_19 : decode cX3_become 19 = .ok (.iconst 0, 1) := by decide +kernel
theorem dX3_become_20 : decode cX3_become 20 = .ok (.aload_n 0, 1) := by decide +kernel
theorem dX3_become_21 : decode cX3_become 21 = .ok (.getfield 15, 3) := by decide +kernel
theorem dX3_become_24 : decode cX3_become 24 = .ok (.iconst 0, 1) := by decide +kernel
theorem dX3_become_25 : decode cX3_become 25 = .ok (.iconst 3, 1) := by decide +kernel
theorem dX3_become_26 : decode cX3_become 26 = .ok (.invokestatic 25, 3) := by decide +kernel
theorem dX3_become_29 : decode cX3_become 29 = .ok (.aload_n 0, 1) := by decide +kernel
theorem dX3_become_30 : decode cX3_become 30 = .ok (.aload_n 1, 1) := by decide +kernel
theorem dX3_become_31 : decode cX3_become 31 = .ok (.getfield 18, 3) := by decide +kernel
theorem dX3_become_34 : decode cX3_become 34 = .ok (.putfield 18, 3) := by decide +kernel
theorem dX3_become_37 : decode cX3_become 37 = .ok (.aload_n 0, 1) := by decide +kernel
theorem dX3_become_38 : decode cX3_become 38 = .ok (.aload_n 1, 1) := by decide +kernel
theorem dX3_become_39 : decode cX3_become 39 = .ok (.getfield 22, 3) := by decide +kernel
theorem dX3_become_42 : decode cX3_become 42 = .ok (.putfield 22, 3) := by decide +kernel
theorem dX3_become_45 : decode cX3_become 45 = .ok (.return_, 1) := by decide +kernel
theorem dX3_write_0 : decode cX3_write 0 = .ok (.aload_n 0, 1) := by decide +kernel
theorem dX3_write_1 : decode cX3_write 1 = .ok (.getfield 18, 3) := by decide +kernel
theorem dX3_write_4 : decode cX3_write 4 = .ok (.bipush 120, 2) := by decide +kernel
theorem dX3_write_6 : decode cX3_write 6 = .ok (.if_icmp .lt 4, 3) := by decide +kernel
theorem dX3_write_9 : decode cX3_write 9 = .ok (.return_, 1) := by decide +kernel
theorem dX3_write_10 : decode cX3_write 10 = .ok (.aload_n 0, 1) := by decide +kernel
theorem dX3_write_11 : decode cX3_write 11 = .ok (.getfield 9, 3) := by decide +kernel
theorem dX3_write_14 : decode cX3_write 14 = .ok (.aload_n 0, 1) := by decide +kernel
theorem dX3_write_15 : decode cX3_write 15 = .ok (.getfield 18, 3) := by decide +kernel
theorem dX3_write_18 : decode cX3_write 18 = .ok (.iload_n 1, 1) := by decide +kernel
theorem dX3_write_19 : decode cX3_write 19 = .ok (.iastore, 1) := by decide +kernel
theorem dX3_write_20 : decode cX3_write 20 = .ok (.aload_n 0, 1) := by decide +kernel
theorem dX3_write_21 : decode cX3_write 21 = .ok (.dup, 1) := by decide +kernel
theorem dX3_write_22 : decode cX3_write 22 = .ok (.getfield 18, 3) := by decide +kernel
theorem dX3_write_25 : decode cX3_write 25 = .ok (.iconst 1, 1) := by decide +kernel
theorem dX3_write_26 : decode cX3_write 26 = .ok (.iadd, 1) := by decide +kernel
theorem dX3_write_27 : decode cX3_write 27 = .ok (.putfield 18, 3) := by decide +kernel
theorem dX3_write_30 : decode cX3_write 30 = .ok (.return_, 1) := by decide +kernel
theorem dX4_init_0 : decode cX4_init 0 = .ok (.aload_n 0, 1) := by decide +kernel
theorem dX4_init_1 : decode cX4_init 1 = .ok (.invokespecial 3, 3) := by decide +kernel
theorem dX4_init_4 : decode cX4_init 4 = .ok (.aload_n 0, 1) := by decide +kernel
theorem dX4_init_5 : decode cX4_init 5 = .ok (.iconst 0, 1) := by decide +kernel
theorem dX4_init_6 : decode cX4_init 6 = .ok (.putfield 9, 3) := by decide +kernel
theorem dX4_init_9 : decode cX4_init 9 = .ok (.aload_n 0, 1) := by decide +kernel
theorem dX4_init_10 : decode cX4_init 10 = .ok (.iconst (-1), 1) := by decide +kernel
theorem dX4_init_11 : decode cX4_init 11 = .ok (.putfield 15, 3) := by decide +kernel
theorem dX4_init_14 : decode cX4_init 14 = .ok (.aload_n 0, 1) := by decide +kernel
theorem dX4_init_15 : decode cX4_init 15 = .ok (.iconst 0, 1) := by decide +kernel
theorem dX4_init_16 : decode cX4_init 16 = .ok (.putfield 18, 3) := by decide +kernel
theorem dX4_init_19 : decode cX4_init 19 = .ok (.return_, 1) := by decide +kernel
theorem dX4_begin_0 : decode cX4_begin 0 = .ok (.aload_n 0, 1) := by decide +kernel
theorem dX4_begin_1 : decode cX4_begin 1 = .ok (.iload_n 1, 1) := by decide +kernel
theorem dX4_begin_2 : decode cX4_begin 2 = .ok (.putfield 9, 3) := by decide +kernel
theorem dX4_begin_5 : decode cX4_begin 5 = .ok (.aload_n 0, 1) := by decide +kernel
theorem dX4_begin_6 : decode cX4_begin 6 = .ok (.iconst (-1), 1) := by decide +kernel
theorem dX4_begin_7 : decode cX4_begin 7 = .ok (.putfield 15, 3) := by decide +kernel
theorem dX4_begin_10 : decode cX4_begin 10 = .ok (.aload_n 0, 1) := by decide +kernel
theorem dX4_begin_11 : decode cX4_begin 11 = .ok (.iconst 0, 1) := by decide +kernel
theorem dX4_begin_12 : decode cX4_begin 12 = .ok (.putfield 18, 3) := by decide +kernel
theorem dX4_begin_15 : decode cX4_begin 15 = .ok (.return_, 1) := by decide +kernel
theorem dX4_become_0 : decode cX4_become 0 = .ok (.aload_n 0, 1) := by decide +kernel
theorem dX4_become_1 : decode cX4_become 1 = .ok (.aload_n 1, 1) := by decide +kernel
theorem dX4_become_2 : decode cX4_become 2 = .ok (.getfield 9, 3) := by decide +kernel
theorem dX4_become_5 : decode cX4_become 5 = .ok (.putfield 9, 3) := by decide +kernel
theorem dX4_become_8 : decode cX4_become 8 = .ok (.aload_n 0, 1) := by decide +kernel
theorem dX4_become_9 : decode cX4_become 9 = .ok (.aload_n 1, 1) := by decide +kernel
theorem dX4_become_10 : decode cX4_become 10 = .ok (.getfield 15, 3) := by decide +kernel
theorem dX4_become_13 : decode cX4_become 13 = .ok (.putfield 15, 3) := by decide +kernel
theorem dX4_become_16 : decode cX4_become 16 = .ok (.aload_n 0, 1) := by decide +kernel
theorem dX4_become_17 : decode cX4_become 17 = .ok (.aload_n 1, 1) := by decide +kernel
theorem dX4_become_18 : decode cX4_become 18 = .ok (.getfield 18, 3) := by decide +kernel
theorem dX4_become_21 : decode cX4_become 21 = .ok (.putfield 18, 3) := by decide +kernel
theorem dX4_become_24 : decode cX4_become 24 = .ok (.return_, 1) := by decide +kernel
theorem dX4_isCoupled_0 : decode cX4_isCoupled 0 = .ok (.aload_n 0, 1) := by decide +kernel
theorem dX4_isCoupled_1 : decode cX4_isCoupled 1 = .ok (.getfield 15, 3) := by decide +kernel
theorem dX4_isCoupled_4 : decode cX4_isCoupled 4 = .ok (.iconst (-1), 1) := by decide +kernel
theorem dX4_isCoupled_5 : decode cX4_isCoupled 5 = .ok (.if_icmp .eq 7, 3) := by decide +kernel
theorem dX4_isCoupled_8 : decode cX4_isCoupled 8 = .ok (.iconst 1, 1) := by decide +kernel
theorem dX4_isCoupled_9 : decode cX4_isCoupled 9 = .ok (.goto 4, 3) := by decide +kernel
theorem dX4_isCoupled_12 : decode cX4_isCoupled 12 = .ok (.iconst 0, 1) := by decide +kernel
theorem dX4_isCoupled_13 : decode cX4_isCoupled 13 = .ok (.ireturn, 1) := by decide +kernel
theorem dX4_isOfKind_0 : decode cX4_isOfKind 0 = .ok (.iload_n 1, 1) := by decide +kernel
theorem dX4_isOfKind_1 : decode cX4_isOfKind 1 = .ok (.ifCond .eq 24, 3) := by decide +kernel
theorem dX4_isOfKind_4 : decode cX4_isOfKind 4 = .ok (.iload_n 1, 1) := by decide +kernel
theorem dX4_isOfKind_5 : decode cX4_isOfKind 5 = .ok (.aload_n 0, 1) := by decide +kernel
theorem dX4_isOfKind_6 : decode cX4_isOfKind 6 = .ok (.getfield 9, 3) := by decide +kernel
theorem dX4_isOfKind_9 : decode cX4_isOfKind 9 = .ok (.if_icmp .eq 16, 3) := by decide +kernel
theorem dX4_isOfKind_12 : decode cX4_isOfKind 12 = .ok (.iload_n 1, 1) := by decide +kernel
theorem dX4_isOfKind_13 : decode cX4_isOfKind 13 = .ok (.iconst 1, 1) := by decide +kernel
theorem dX4_isOfKind_14 : decode cX4_isOfKind 14 = .ok (.if_icmp .ne 15, 3) := by decide +kernel
theorem dX4_isOfKind_17 : decode cX4_isOfKind 17 = .ok (.aload_n 0, 1) := by decide +kernel
theorem dX4_isOfKind_18 : decode cX4_isOfKind 18 = .ok (.getfield 9, 3) := by decide +kernel
theorem dX4_isOfKind_21 : decode cX4_isOfKind 21 = .ok (.iconst 2, 1) := by decide +kernel
theorem dX4_isOfKind_22 : decode cX4_isOfKind 22 = .ok (.if_icmp .ne 7, 3) := by decide +kernel
theorem dX4_isOfKind_25 : decode cX4_isOfKind 25 = .ok (.iconst 1, 1) := by decide +kernel
theorem dX4_isOfKind_26 : decode cX4_isOfKind 26 = .ok (.goto 4, 3) := by decide +kernel
theorem dX4_isOfKind_29 : decode cX4_isOfKind 29 = .ok (.iconst 0, 1) := by decide +kernel
theorem dX4_isOfKind_30 : decode cX4_isOfKind 30 = .ok (.ireturn, 1) := by decide +kernel
theorem dX5_init_0 : decode cX5_init 0 = .ok (.aload_n 0, 1) := by decide +kernel
theorem dX5_init_1 : decode cX5_init 1 = .ok (.invokespecial 3, 3) := by decide +kernel
theorem dX5_init_4 : decode cX5_init 4 = .ok (.aload_n 0, 1) := by decide +kernel
theorem dX5_init_5 : decode cX5_init 5 = .ok (.bipush 24, 2) := by decide +kernel
theorem dX5_init_7 : decode cX5_init 7 = .ok (.newarray .int, 2) := by decide +kernel
theorem dX5_init_9 : decode cX5_init 9 = .ok (.putfield 9, 3) := by decide +kernel
theorem dX5_init_12 : decode cX5_init 12 = .ok (.aload_n 0, 1) := by decide +kernel
theorem dX5_init_13 : decode cX5_init 13 = .ok (.bipush 24, 2) := by decide +kernel
theorem dX5_init_15 : decode cX5_init 15 = .ok (.newarray .int, 2) := by decide +kernel
theorem dX5_init_17 : decode cX5_init 17 = .ok (.putfield 15, 3) := by decide +kernel
theorem dX5_init_20 : decode cX5_init 20 = .ok (.aload_n 0, 1) := by decide +kernel
theorem dX5_init_21 : decode cX5_init 21 = .ok (.iconst 0, 1) := by decide +kernel
theorem dX5_init_22 : decode cX5_init 22 = .ok (.putfield 18, 3) := by decide +kernel
theorem dX5_init_25 : decode cX5_init 25 = .ok (.aload_n 0, 1) := by decide +kernel
theorem dX5_init_26 : decode cX5_init 26 = .ok (.iconst 0, 1) := by decide +kernel
theorem dX5_init_27 : decode cX5_init 27 = .ok (.putfield 22, 3) := by decide +kernel
theorem dX5_init_30 : decode cX5_init 30 = .ok (.return_, 1) := by decide +kernel
theorem dX5_isFound_0 : decode cX5_isFound 0 = .ok (.aload_n 1, 1) := by decide +kernel
theorem dX5_isFound_1 : decode cX5_isFound 1 = .ok (.iload_n 2, 1) := by decide +kernel
theorem dX5_isFound_2 : decode cX5_isFound 2 = .ok (.invokestatic 25, 3) := by decide +kernel
theorem dX5_isFound_5 : decode cX5_isFound 5 = .ok (.istore_n 3, 1) := by decide +kernel
theorem dX5_isFound_6 : decode cX5_isFound 6 = .ok (.iconst 0, 1) := by decide +kernel
theorem dX5_isFound_7 : decode cX5_isFound 7 = .ok (.istore 4, 2) := by decide +kernel
theorem dX5_isFound_9 : decode cX5_isFound 9 = .ok (.iconst 0, 1) := by decide +kernel
theorem dX5_isFound_10 : decode cX5_isFound 10 = .ok (.istore 5, 2) := by decide +kernel
theorem dX5_isFound_12 : decode cX5_isFound 12 = .ok (.iload 5, 2) := by decide +kernel
theorem dX5_isFound_14 : decode cX5_isFound 14 = .ok (.bipush 24, 2) := by decide +kernel
theorem dX5_isFound_16 : decode cX5_isFound 16 = .ok (.if_icmp .ge 45, 3) := by decide +kernel
theorem dX5_isFound_19 : decode cX5_isFound 19 = .ok (.aload_n 0, 1) := by decide +kernel
theorem dX5_isFound_20 : decode cX5_isFound 20 = .ok (.getfield 9, 3) := by decide +kernel
theorem dX5_isFound_23 : decode cX5_isFound 23 = .ok (.iload 5, 2) := by decide +kernel
theorem dX5_isFound_25 : decode cX5_isFound 25 = .ok (.iload_n 3, 1) := by decide +kernel
theorem dX5_isFound_26 : decode cX5_isFound 26 = .ok (.ifCond .ne 7, 3) := by decide +kernel
theorem dX5_isFound_29 : decode cX5_isFound 29 = .ok (.iconst 0, 1) := by decide +kernel
theorem dX5_isFound_30 : decode cX5_isFound 30 = .ok (.goto 10, 3) := by decide +kernel
theorem dX5_isFound_33 : decode cX5_isFound 33 = .ok (.aload_n 1, 1) := by decide +kernel
theorem dX5_isFound_34 : decode cX5_isFound 34 = .ok (.iload_n 2, 1) := by decide +kernel
theorem dX5_isFound_35 : decode cX5_isFound 35 = .ok (.iload 5, 2) := by decide +kernel
theorem dX5_isFound_37 : decode cX5_isFound 37 = .ok (.invokevirtual 29, 3) := by decide +kernel
theorem dX5_isFound_40 : decode cX5_isFound 40 = .ok (.iastore, 1) := by decide +kernel
theorem dX5_isFound_41 : decode cX5_isFound 41 = .ok (.iload 4, 2) := by decide +kernel
theorem dX5_isFound_43 : decode cX5_isFound 43 = .ok (.aload_n 0, 1) := by decide +kernel
theorem dX5_isFound_44 : decode cX5_isFound 44 = .ok (.getfield 9, 3) := by decide +kernel
theorem dX5_isFound_47 : decode cX5_isFound 47 = .ok (.iload 5, 2) := by decide +kernel
theorem dX5_isFound_49 : decode cX5_isFound 49 = .ok (.iaload, 1) := by decide +kernel
theorem dX5_isFound_50 : decode cX5_isFound 50 = .ok (.invokestatic 35, 3) := by decide +kernel
theorem dX5_isFound_53 : decode cX5_isFound 53 = .ok (.istore 4, 2) := by decide +kernel
theorem dX5_isFound_55 : decode cX5_isFound 55 = .ok (.iinc 5 1, 3) := by decide +kernel
theorem dX5_isFound_58 : decode cX5_isFound 58 = .ok (.goto (-46), 3) := by decide +kernel
theorem dX5_isFound_61 : decode cX5_isFound 61 = .ok (.aload_n 0, 1) := by decide +kernel
theorem dX5_isFound_62 : decode cX5_isFound 62 = .ok (.aload_n 1, 1) := by decide +kernel
theorem dX5_isFound_63 : decode cX5_isFound 63 = .ok (.iload_n 2, 1) := by decide +kernel
theorem dX5_isFound_64 : decode cX5_isFound 64 = .ok (.iload 4, 2) := by decide +kernel
theorem dX5_isFound_66 : decode cX5_isFound 66 = .ok (.invokevirtual 40, 3) := by decide +kernel
theorem dX5_isFound_69 : decode cX5_isFound 69 = .ok (.ifCond .ne 5, 3) := by decide +kernel
theorem dX5_isFound_72 : decode cX5_isFound 72 = .ok (.iconst 0, 1) := by decide +kernel
theorem dX5_isFound_73 : decode cX5_isFound 73 = .ok (.ireturn, 1) := by decide +kernel
theorem dX5_isFound_74 : decode cX5_isFound 74 = .ok (.aload_n 0, 1) := by decide +kernel
theorem dX5_isFound_75 : decode cX5_isFound 75 = .ok (.aload_n 0, 1) := by decide +kernel
theorem dX5_isFound_76 : decode cX5_isFound 76 = .ok (.iload 4, 2) := by decide +kernel
theorem dX5_isFound_78 : decode cX5_isFound 78 = .ok (.aload_n 1, 1) := by decide +kernel
theorem dX5_isFound_79 : decode cX5_isFound 79 = .ok (.iload_n 2, 1) := by decide +kernel
theorem dX5_isFound_80 : decode cX5_isFound 80 = .ok (.invokevirtual 44, 3) := by decide +kernel
theorem dX5_isFound_83 : decode cX5_isFound 83 = .ok (.putfield 18, 3) := by decide +kernel
theorem dX5_isFound_86 : decode cX5_isFound 86 = .ok (.aload_n 0, 1) := by decide +kernel
theorem dX5_isFound_87 : decode cX5_isFound 87 = .ok (.iload_n 3, 1) := by decide +kernel
theorem dX5_isFound_88 : decode cX5_isFound 88 = .ok (.invokevirtual 48, 3) := by decide +kernel
theorem dX5_isFound_91 : decode cX5_isFound 91 = .ok (.iconst 1, 1) := by decide +kernel
theorem dX5_isFound_92 : decode cX5_isFound 92 = .ok (.ireturn, 1) := by decide +kernel
theorem dX5_leastUpTo_0 : decode cX5_leastUpTo 0 = .ok (.iconst (-1), 1) := by decide +kernel
theorem dX5_leastUpTo_1 : decode cX5_leastUpTo 1 = .ok (.istore 4, 2) := by decide +kernel
theorem dX5_leastUpTo_3 : decode cX5_leastUpTo 3 = .ok (.iload_n 1, 1) := by decide +kernel
theorem dX5_leastUpTo_4 : decode cX5_leastUpTo 4 = .ok (.istore 5, 2) := by decide +kernel
theorem dX5_leastUpTo_6 : decode cX5_leastUpTo 6 = .ok (.iconst 0, 1) := by decide +kernel
theorem dX5_leastUpTo_7 : decode cX5_leastUpTo 7 = .ok (.istore 6, 2) := by decide +kernel
theorem dX5_leastUpTo_9 : decode cX5_leastUpTo 9 = .ok (.iload 6, 2) := by decide +kernel
theorem dX5_leastUpTo_11 : decode cX5_leastUpTo 11 = .ok (.bipush 32, 2) := by decide +kernel
theorem dX5_leastUpTo_13 : decode cX5_leastUpTo 13 = .ok (.if_icmp .ge 49, 3) := by decide +kernel
theorem dX5_leastUpTo_16 : decode cX5_leastUpTo 16 = .ok (.iload 5, 2) := by decide +kernel
theorem dX5_leastUpTo_18 : decode cX5_leastUpTo 18 = .ok (.iload 4, 2) := by decide +kernel
theorem dX5_leastUpTo_20 : decode cX5_leastUpTo 20 = .ok (.isub, 1) := by decide +kernel
theorem dX5_leastUpTo_21 : decode cX5_leastUpTo 21 = .ok (.iconst 1, 1) := by decide +kernel
theorem dX5_leastUpTo_22 : decode cX5_leastUpTo 22 = .ok (.if_icmp .le 40, 3) := by decide +kernel
theorem dX5_leastUpTo_25 : decode cX5_leastUpTo 25 = .ok (.iload 4, 2) := by decide +kernel
theorem dX5_leastUpTo_27 : decode cX5_leastUpTo 27 = .ok (.iload 5, 2) := by decide +kernel
theorem dX5_leastUpTo_29 : decode cX5_leastUpTo 29 = .ok (.iadd, 1) := by decide +kernel
theorem dX5_leastUpTo_30 : decode cX5_leastUpTo 30 = .ok (.iconst 2, 1) := by decide +kernel
theorem dX5_leastUpTo_31 : decode cX5_leastUpTo 31 = .ok (.idiv, 1) := by decide +kernel
theorem dX5_leastUpTo_32 : decode cX5_leastUpTo 32 = .ok (.istore 7, 2) := by decide +kernel
theorem dX5_leastUpTo_34 : decode cX5_leastUpTo 34 = .ok (.aload_n 0, 1) := by decide +kernel
theorem dX5_leastUpTo_35 : decode cX5_leastUpTo 35 = .ok (.aload_n 2, 1) := by decide +kernel
theorem dX5_leastUpTo_36 : decode cX5_leastUpTo 36 = .ok (.iload_n 3, 1) := by decide +kernel
theorem dX5_leastUpTo_37 : decode cX5_leastUpTo 37 = .ok (.iload 7, 2) := by decide +kernel
theorem dX5_leastUpTo_39 : decode cX5_leastUpTo 39 = .ok (.invokevirtual 40, 3) := by decide +kernel
theorem dX5_leastUpTo_42 : decode cX5_leastUpTo 42 = .ok (.ifCond .eq 10, 3) := by decide +kernel
theorem dX5_leastUpTo_45 : decode cX5_leastUpTo 45 = .ok (.iload 7, 2) := by decide +kernel
theorem dX5_leastUpTo_47 : decode cX5_leastUpTo 47 = .ok (.istore 5, 2) := by decide +kernel
theorem dX5_leastUpTo_49 : decode cX5_leastUpTo 49 = .ok (.goto 7, 3) := by decide +kernel
theorem dX5_leastUpTo_52 : decode cX5_leastUpTo 52 = .ok (.iload 7, 2) := by decide +kernel
theorem dX5_leastUpTo_54 : decode cX5_leastUpTo 54 = .ok (.istore 4, 2) := by decide +kernel
theorem dX5_leastUpTo_56 : decode cX5_leastUpTo 56 = .ok (.iinc 6 1, 3) := by decide +kernel
theorem dX5_leastUpTo_59 : decode cX5_leastUpTo 59 = .ok (.goto (-50), 3) := by decide +kernel
theorem dX5_leastUpTo_62 : decode cX5_leastUpTo 62 = .ok (.iload 5, 2) := by decide +kernel
theorem dX5_leastUpTo_64 : decode cX5_leastUpTo 64 = .ok (.ireturn, 1) := by decide +kernel
theorem dX5_isOwing_0 : decode cX5_isOwing 0 = .ok (.aload_n 0, 1) := by decide +kernel
theorem dX5_isOwing_1 : decode cX5_isOwing 1 = .ok (.getfield 52, 3) := by decide +kernel
theorem dX5_isOwing_4 : decode cX5_isOwing 4 = .ok (.iload_n 1, 1) := by decide +kernel
theorem dX5_isOwing_5 : decode cX5_isOwing 5 = .ok (.aaload, 1) := by decide +kernel
theorem dX5_isOwing_6 : decode cX5_isOwing 6 = .ok (.astore_n 3, 1) := by decide +kernel
theorem dX5_isOwing_7 : decode cX5_isOwing 7 = .ok (.aload_n 3, 1) := by decide +kernel
theorem dX5_isOwing_8 : decode cX5_isOwing 8 = .ok (.getfield 56, 3) := by decide +kernel
theorem dX5_isOwing_11 : decode cX5_isOwing 11 = .ok (.iload_n 2, 1) := by decide +kernel
theorem dX5_isOwing_12 : decode cX5_isOwing 12 = .ok (.if_icmp .ne 22, 3) := by decide +kernel
theorem dX5_isOwing_15 : decode cX5_isOwing 15 = .ok (.aload_n 3, 1) := by decide +kernel
theorem dX5_isOwing_16 : decode cX5_isOwing 16 = .ok (.getfield 61, 3) := by decide +kernel
theorem dX5_isOwing_19 : decode cX5_isOwing 19 = .ok (.iconst 3, 1) := by decide +kernel
theorem dX5_isOwing_20 : decode cX5_isOwing 20 = .ok (.if_icmp .eq 14, 3) := by decide +kernel
theorem dX5_isOwing_23 : decode cX5_isOwing 23 = .ok (.aload_n 3, 1) := by decide +kernel
theorem dX5_isOwing_24 : decode cX5_isOwing 24 = .ok (.invokevirtual 64, 3) := by decide +kernel
theorem dX5_isOwing_27 : decode cX5_isOwing 27 = .ok (.ifCond .le 7, 3) := by decide +kernel
theorem dX5_isOwing_30 : decode cX5_isOwing 30 = .ok (.iconst 1, 1) := by decide +kernel
theorem dX5_isOwing_31 : decode cX5_isOwing 31 = .ok (.goto 4, 3) := by decide +kernel
theorem dX5_isOwing_34 : decode cX5_isOwing 34 = .ok (.iconst 0, 1) := by decide +kernel
theorem dX5_isOwing_35 : decode cX5_isOwing 35 = .ok (.ireturn, 1) := by decide +kernel
theorem dX5_owedIn_0 : decode cX5_owedIn 0 = .ok (.iconst 0, 1) := by decide +kernel
theorem dX5_owedIn_1 : decode cX5_owedIn 1 = .ok (.istore_n 2, 1) := by decide +kernel
theorem dX5_owedIn_2 : decode cX5_owedIn 2 = .ok (.iconst 0, 1) := by decide +kernel
theorem dX5_owedIn_3 : decode cX5_owedIn 3 = .ok (.istore_n 3, 1) := by decide +kernel
theorem dX5_owedIn_4 : decode cX5_owedIn 4 = .ok (.iload_n 3, 1) := by decide +kernel
theorem dX5_owedIn_5 : decode cX5_owedIn 5 = .ok (.aload_n 0, 1) := by decide +kernel
theorem dX5_owedIn_6 : decode cX5_owedIn 6 = .ok (.getfield 68, 3) := by decide +kernel
theorem dX5_owedIn_9 : decode cX5_owedIn 9 = .ok (.if_icmp .ge 30, 3) := by decide +kernel
theorem dX5_owedIn_12 : decode cX5_owedIn 12 = .ok (.aload_n 0, 1) := by decide +kernel
theorem dX5_owedIn_13 : decode cX5_owedIn 13 = .ok (.iload_n 3, 1) := by decide +kernel
theorem dX5_owedIn_14 : decode cX5_owedIn 14 = .ok (.iload_n 1, 1) := by decide +kernel
theorem dX5_owedIn_15 : decode cX5_owedIn 15 = .ok (.invokestatic 71, 3) := by decide +kernel
theorem dX5_owedIn_18 : decode cX5_owedIn 18 = .ok (.ifCond .eq 15, 3) := by decide +kernel
theorem dX5_owedIn_21 : decode cX5_owedIn 21 = .ok (.iload_n 2, 1) := by decide +kernel
theorem dX5_owedIn_22 : decode cX5_owedIn 22 = .ok (.aload_n 0, 1) := by decide +kernel
theorem dX5_owedIn_23 : decode cX5_owedIn 23 = .ok (.getfield 52, 3) := by decide +kernel
theorem dX5_owedIn_26 : decode cX5_owedIn 26 = .ok (.iload_n 3, 1) := by decide +kernel
theorem dX5_owedIn_27 : decode cX5_owedIn 27 = .ok (.aaload, 1) := by decide +kernel
theorem dX5_owedIn_28 : decode cX5_owedIn 28 = .ok (.invokevirtual 64, 3) := by decide +kernel
theorem dX5_owedIn_31 : decode cX5_owedIn 31 = .ok (.iadd, 1) := by decide +kernel
theorem dX5_owedIn_32 : decode cX5_owedIn 32 = .ok (.istore_n 2, 1) := by decide +kernel
theorem dX5_owedIn_33 : decode cX5_owedIn 33 = .ok (.iinc 3 1, 3) := by decide +kernel
theorem dX5_owedIn_36 : decode cX5_owedIn 36 = .ok (.goto (-32), 3) := by decide +kernel
theorem dX5_owedIn_39 : decode cX5_owedIn 39 = .ok (.iload_n 2, 1) := by decide +kernel
theorem dX5_owedIn_40 : decode cX5_owedIn 40 = .ok (.ireturn, 1) := by decide +kernel
theorem dX5_holds_0 : decode cX5_holds 0 = .ok (.iconst 0, 1) := by decide +kernel
theorem dX5_holds_1 : decode cX5_holds 1 = .ok (.istore 4, 2) := by decide +kernel
theorem dX5_holds_3 : decode cX5_holds 3 = .ok (.iconst 0, 1) := by decide +kernel
theorem dX5_holds_4 : decode cX5_holds 4 = .ok (.istore 5, 2) := by decide +kernel
theorem dX5_holds_6 : decode cX5_holds 6 = .ok (.iconst 0, 1) := by decide +kernel
theorem dX5_holds_7 : decode cX5_holds 7 = .ok (.istore 6, 2) := by decide +kernel
theorem dX5_holds_9 : decode cX5_holds 9 = .ok (.iconst 0, 1) := by decide +kernel
theorem dX5_holds_10 : decode cX5_holds 10 = .ok (.istore 7, 2) := by decide +kernel
theorem dX5_holds_12 : decode cX5_holds 12 = .ok (.iload 7, 2) := by decide +kernel
theorem dX5_holds_14 : decode cX5_holds 14 = .ok (.aload_n 1, 1) := by decide +kernel
theorem dX5_holds_15 : decode cX5_holds 15 = .ok (.getfield 68, 3) := by decide +kernel
theorem dX5_holds_18 : decode cX5_holds 18 = .ok (.if_icmp .ge 110, 3) := by decide +kernel
theorem dX5_holds_21 : decode cX5_holds 21 = .ok (.aload_n 1, 1) := by decide +kernel
theorem dX5_holds_22 : decode cX5_holds 22 = .ok (.iload 7, 2) := by decide +kernel
theorem dX5_holds_24 : decode cX5_holds 24 = .ok (.iload_n 2, 1) := by decide +kernel
theorem dX5_holds_25 : decode cX5_holds 25 = .ok (.invokestatic 71, 3) := by decide +kernel
theorem dX5_holds_28 : decode cX5_holds 28 = .ok (.ifCond .ne 6, 3) := by decide +kernel
theorem dX5_holds_31 : decode cX5_holds 31 = .ok (.goto 91, 3) := by decide +kernel
theorem dX5_holds_34 : decode cX5_holds 34 = .ok (.iload 4, 2) := by decide +kernel
theorem dX5_holds_36 : decode cX5_holds 36 = .ok (.aload_n 1, 1) := by decide +kernel
theorem dX5_holds_37 : decode cX5_holds 37 = .ok (.getfield 52, 3) := by decide +kernel
theorem dX5_holds_40 : decode cX5_holds 40 = .ok (.iload 7, 2) := by decide +kernel
theorem dX5_holds_42 : decode cX5_holds 42 = .ok (.aaload, 1) := by decide +kernel
theorem dX5_holds_43 : decode cX5_holds 43 = .ok (.invokevirtual 64, 3) := by decide +kernel
theorem dX5_holds_46 : decode cX5_holds 46 = .ok (.iadd, 1) := by decide +kernel
theorem dX5_holds_47 : decode cX5_holds 47 = .ok (.istore 4, 2) := by decide +kernel
theorem dX5_holds_49 : decode cX5_holds 49 = .ok (.aload_n 1, 1) := by decide +kernel
theorem dX5_holds_50 : decode cX5_holds 50 = .ok (.getfield 52, 3) := by decide +kernel
theorem dX5_holds_53 : decode cX5_holds 53 = .ok (.iload 7, 2) := by decide +kernel
theorem dX5_holds_55 : decode cX5_holds 55 = .ok (.aaload, 1) := by decide +kernel
theorem dX5_holds_56 : decode cX5_holds 56 = .ok (.getfield 74, 3) := by decide +kernel
theorem dX5_holds_59 : decode cX5_holds 59 = .ok (.aload_n 1, 1) := by decide +kernel
theorem dX5_holds_60 : decode cX5_holds 60 = .ok (.getfield 77, 3) := by decide +kernel
theorem dX5_holds_63 : decode cX5_holds 63 = .ok (.bipush 12, 2) := by decide +kernel
theorem dX5_holds_65 : decode cX5_holds 65 = .ok (.iaload, 1) := by decide +kernel
theorem dX5_holds_66 : decode cX5_holds 66 = .ok (.iadd, 1) := by decide +kernel
theorem dX5_holds_67 : decode cX5_holds 67 = .ok (.istore 8, 2) := by decide +kernel
theorem dX5_holds_69 : decode cX5_holds 69 = .ok (.iload 6, 2) := by decide +kernel
theorem dX5_holds_71 : decode cX5_holds 71 = .ok (.bipush 24, 2) := by decide +kernel
theorem dX5_holds_73 : decode cX5_holds 73 = .ok (.if_icmp .ge 40, 3) := by decide +kernel
theorem dX5_holds_76 : decode cX5_holds 76 = .ok (.aload_n 1, 1) := by decide +kernel
theorem dX5_holds_77 : decode cX5_holds 77 = .ok (.getfield 80, 3) := by decide +kernel
theorem dX5_holds_80 : decode cX5_holds 80 = .ok (.bipush 30, 2) := by decide +kernel
theorem dX5_holds_82 : decode cX5_holds 82 = .ok (.iload 6, 2) := by decide +kernel
theorem dX5_holds_84 : decode cX5_holds 84 = .ok (.imul, 1) := by decide +kernel
theorem dX5_holds_85 : decode cX5_holds 85 = .ok (.iadd, 1) := by decide +kernel
theorem dX5_holds_86 : decode cX5_holds 86 = .ok (.iload 8, 2) := by decide +kernel
theorem dX5_holds_88 : decode cX5_holds 88 = .ok (.if_icmp .gt 25, 3) := by decide +kernel
theorem dX5_holds_91 : decode cX5_holds 91 = .ok (.iload 5, 2) := by decide +kernel
theorem dX5_holds_93 : decode cX5_holds 93 = .ok (.aload_n 0, 1) := by decide +kernel
theorem dX5_holds_94 : decode cX5_holds 94 = .ok (.getfield 9, 3) := by decide +kernel
theorem dX5_holds_97 : decode cX5_holds 97 = .ok (.iload 6, 2) := by decide +kernel
theorem dX5_holds_99 : decode cX5_holds 99 = .ok (.iaload, 1) := by decide +kernel
theorem dX5_holds_100 : decode cX5_holds 100 = .ok (.iload_n 3, 1) := by decide +kernel
theorem dX5_holds_101 : decode cX5_holds 101 = .ok (.invokestatic 83, 3) := by decide +kernel
theorem dX5_holds_104 : decode cX5_holds 104 = .ok (.iadd, 1) := by decide +kernel
theorem dX5_holds_105 : decode cX5_holds 105 = .ok (.istore 5, 2) := by decide +kernel
theorem dX5_holds_107 : decode cX5_holds 107 = .ok (.iinc 6 1, 3) := by decide +kernel
theorem dX5_holds_110 : decode cX5_holds 110 = .ok (.goto (-41), 3) := by decide +kernel
theorem dX5_holds_113 : decode cX5_holds 113 = .ok (.iload 5, 2) := by decide +kernel
theorem dX5_holds_115 : decode cX5_holds 115 = .ok (.iload 4, 2) := by decide +kernel
theorem dX5_holds_117 : decode cX5_holds 117 = .ok (.if_icmp .ge 5, 3) := by decide +kernel
theorem dX5_holds_120 : decode cX5_holds 120 = .ok (.iconst 0, 1) := by decide +kernel
theorem dX5_holds_121 : decode cX5_holds 121 = .ok (.ireturn, 1) := by decide +kernel
theorem dX5_holds_122 : decode cX5_holds 122 = .ok (.iinc 7 1, 3) := by decide +kernel
theorem dX5_holds_125 : decode cX5_holds 125 = .ok (.goto (-113), 3) := by decide +kernel
theorem dX5_holds_128 : decode cX5_holds 128 = .ok (.iconst 1, 1) := by decide +kernel
theorem dX5_holds_129 : decode cX5_holds 129 = .ok (.ireturn, 1) := by decide +kernel
theorem dX5_setPays_0 : decode cX5_setPays 0 = .ok (.iload_n 1, 1) := by decide +kernel
theorem dX5_setPays_1 : decode cX5_setPays 1 = .ok (.istore_n 2, 1) := by decide +kernel
theorem dX5_setPays_2 : decode cX5_setPays 2 = .ok (.aload_n 0, 1) := by decide +kernel
theorem dX5_setPays_3 : decode cX5_setPays 3 = .ok (.iconst 0, 1) := by decide +kernel
theorem dX5_setPays_4 : decode cX5_setPays 4 = .ok (.putfield 22, 3) := by decide +kernel
theorem dX5_setPays_7 : decode cX5_setPays 7 = .ok (.iconst 0, 1) := by decide +kernel
theorem dX5_setPays_8 : decode cX5_setPays 8 = .ok (.istore_n 3, 1) := by decide +kernel
theorem dX5_setPays_9 : decode cX5_setPays 9 = .ok (.iload_n 3, 1) := by decide +kernel
theorem dX5_setPays_10 : decode cX5_setPays 10 = .ok (.bipush 24, 2) := by decide +kernel
theorem dX5_setPays_12 : decode cX5_setPays 12 = .ok (.if_icmp .ge 57, 3) := by decide +kernel
theorem dX5_setPays_15 : decode cX5_setPays 15 = .ok (.aload_n 0, 1) := by decide +kernel
theorem dX5_setPays_16 : decode cX5_setPays 16 = .ok (.getfield 15, 3) := by decide +kernel
theorem dX5_setPays_19 : decode cX5_setPays 19 = .ok (.iload_n 3, 1) := by decide +kernel
theorem dX5_setPays_20 : decode cX5_setPays 20 = .ok (.iload_n 2, 1) := by decide +kernel
theorem dX5_setPays_21 : decode cX5_setPays 21 = .ok (.aload_n 0, 1) := by decide +kernel
theorem dX5_setPays_22 : decode cX5_setPays 22 = .ok (.getfield 9, 3) := by decide +kernel
theorem dX5_setPays_25 : decode cX5_setPays 25 = .ok (.iload_n 3, 1) := by decide +kernel
theorem dX5_setPays_26 : decode cX5_setPays 26 = .ok (.iaload, 1) := by decide +kernel
theorem dX5_setPays_27 : decode cX5_setPays 27 = .ok (.aload_n 0, 1) := by decide +kernel
theorem dX5_setPays_28 : decode cX5_setPays 28 = .ok (.getfield 18, 3) := by decide +kernel
theorem dX5_setPays_31 : decode cX5_setPays 31 = .ok (.invokestatic 83, 3) := by decide +kernel
theorem dX5_setPays_34 : decode cX5_setPays 34 = .ok (.invokestatic 83, 3) := by decide +kernel
theorem dX5_setPays_37 : decode cX5_setPays 37 = .ok (.iastore, 1) := by decide +kernel
theorem dX5_setPays_38 : decode cX5_setPays 38 = .ok (.iload_n 2, 1) := by decide +kernel
theorem dX5_setPays_39 : decode cX5_setPays 39 = .ok (.aload_n 0, 1) := by decide +kernel
theorem dX5_setPays_40 : decode cX5_setPays 40 = .ok (.getfield 15, 3) := by decide +kernel
theorem dX5_setPays_43 : decode cX5_setPays 43 = .ok (.iload_n 3, 1) := by decide +kernel
theorem dX5_setPays_44 : decode cX5_setPays 44 = .ok (.iaload, 1) := by decide +kernel
theorem dX5_setPays_45 : decode cX5_setPays 45 = .ok (.isub, 1) := by decide +kernel
theorem dX5_setPays_46 : decode cX5_setPays 46 = .ok (.istore_n 2, 1) := by decide +kernel
theorem dX5_setPays_47 : decode cX5_setPays 47 = .ok (.aload_n 0, 1) := by decide +kernel
theorem dX5_setPays_48 : decode cX5_setPays 48 = .ok (.getfield 15, 3) := by decide +kernel
theorem dX5_setPays_51 : decode cX5_setPays 51 = .ok (.iload_n 3, 1) := by decide +kernel
theorem dX5_setPays_52 : decode cX5_setPays 52 = .ok (.iaload, 1) := by decide +kernel
theorem dX5_setPays_53 : decode cX5_setPays 53 = .ok (.ifCond .le 10, 3) := by decide +kernel
theorem dX5_setPays_56 : decode cX5_setPays 56 = .ok (.aload_n 0, 1) := by decide +kernel
theorem dX5_setPays_57 : decode cX5_setPays 57 = .ok (.iload_n 3, 1) := by decide +kernel
theorem dX5_setPays_58 : decode cX5_setPays 58 = .ok (.iconst 1, 1) := by decide +kernel
theorem dX5_setPays_59 : decode cX5_setPays 59 = .ok (.iadd, 1) := by decide +kernel
theorem dX5_setPays_60 : decode cX5_setPays 60 = .ok (.putfield 22, 3) := by decide +kernel
theorem dX5_setPays_63 : decode cX5_setPays 63 = .ok (.iinc 3 1, 3) := by decide +kernel
theorem dX5_setPays_66 : decode cX5_setPays 66 = .ok (.goto (-57), 3) := by decide +kernel
theorem dX5_setPays_69 : decode cX5_setPays 69 = .ok (.return_, 1) := by decide +kernel
theorem dX5_firstWrong_0 : decode cX5_firstWrong 0 = .ok (.iload_n 2, 1) := by decide +kernel
theorem dX5_firstWrong_1 : decode cX5_firstWrong 1 = .ok (.aload_n 0, 1) := by decide +kernel
theorem dX5_firstWrong_2 : decode cX5_firstWrong 2 = .ok (.getfield 22, 3) := by decide +kernel
theorem dX5_firstWrong_5 : decode cX5_firstWrong 5 = .ok (.invokestatic 35, 3) := by decide +kernel
theorem dX5_firstWrong_8 : decode cX5_firstWrong 8 = .ok (.istore_n 3, 1) := by decide +kernel
theorem dX5_firstWrong_9 : decode cX5_firstWrong 9 = .ok (.iconst 0, 1) := by decide +kernel
theorem dX5_firstWrong_10 : decode cX5_firstWrong 10 = .ok (.istore 4, 2) := by decide +kernel
theorem dX5_firstWrong_12 : decode cX5_firstWrong 12 = .ok (.iload 4, 2) := by decide +kernel
theorem dX5_firstWrong_14 : decode cX5_firstWrong 14 = .ok (.iload_n 3, 1) := by decide +kernel
theorem dX5_firstWrong_15 : decode cX5_firstWrong 15 = .ok (.if_icmp .ge 43, 3) := by decide +kernel
theorem dX5_firstWrong_18 : decode cX5_firstWrong 18 = .ok (.iload 4, 2) := by decide +kernel
theorem dX5_firstWrong_20 : decode cX5_firstWrong 20 = .ok (.iload_n 2, 1) := by decide +kernel
theorem dX5_firstWrong_21 : decode cX5_firstWrong 21 = .ok (.if_icmp .ge 26, 3) := by decide +kernel
theorem dX5_firstWrong_24 : decode cX5_firstWrong 24 = .ok (.iload 4, 2) := by decide +kernel
theorem dX5_firstWrong_26 : decode cX5_firstWrong 26 = .ok (.aload_n 0, 1) := by decide +kernel
theorem dX5_firstWrong_27 : decode cX5_firstWrong 27 = .ok (.getfield 22, 3) := by decide +kernel
theorem dX5_firstWrong_30 : decode cX5_firstWrong 30 = .ok (.if_icmp .ge 17, 3) := by decide +kernel
theorem dX5_firstWrong_33 : decode cX5_firstWrong 33 = .ok (.aload_n 1, 1) := by decide +kernel
theorem dX5_firstWrong_34 : decode cX5_firstWrong 34 = .ok (.iload 4, 2) := by decide +kernel
theorem dX5_firstWrong_36 : decode cX5_firstWrong 36 = .ok (.iaload, 1) := by decide +kernel
theorem dX5_firstWrong_37 : decode cX5_firstWrong 37 = .ok (.aload_n 0, 1) := by decide +kernel
theorem dX5_firstWrong_38 : decode cX5_firstWrong 38 = .ok (.getfield 15, 3) := by decide +kernel
theorem dX5_firstWrong_41 : decode cX5_firstWrong 41 = .ok (.iload 4, 2) := by decide +kernel
theorem dX5_firstWrong_43 : decode cX5_firstWrong 43 = .ok (.iaload, 1) := by decide +kernel
theorem dX5_firstWrong_44 : decode cX5_firstWrong 44 = .ok (.if_icmp .eq 8, 3) := by decide +kernel
theorem dX5_firstWrong_47 : decode cX5_firstWrong 47 = .ok (.iconst 1, 1) := by decide +kernel
theorem dX5_firstWrong_48 : decode cX5_firstWrong 48 = .ok (.iload 4, 2) := by decide +kernel
theorem dX5_firstWrong_50 : decode cX5_firstWrong 50 = .ok (.iadd, 1) := by decide +kernel
theorem dX5_firstWrong_51 : decode cX5_firstWrong 51 = .ok (.ireturn, 1) := by decide +kernel
theorem dX5_firstWrong_52 : decode cX5_firstWrong 52 = .ok (.iinc 4 1, 3) := by decide +kernel
theorem dX5_firstWrong_55 : decode cX5_firstWrong 55 = .ok (.goto (-43), 3) := by decide +kernel
theorem dX5_firstWrong_58 : decode cX5_firstWrong 58 = .ok (.iconst 0, 1) := by decide +kernel
theorem dX5_firstWrong_59 : decode cX5_firstWrong 59 = .ok (.ireturn, 1) := by decide +kernel
theorem dX6_init_0 : decode cX6_init 0 = .ok (.aload_n 0, 1) := by decide +kernel
theorem dX6_init_1 : decode cX6_init 1 = .ok (.invokespecial 3, 3) := by decide +kernel
theorem dX6_init_4 : decode cX6_init 4 = .ok (.aload_n 0, 1) := by decide +kernel
theorem dX6_init_5 : decode cX6_init 5 = .ok (.new 9, 3) := by decide +kernel
theorem dX6_init_8 : decode cX6_init 8 = .ok (.dup, 1) := by decide +kernel
theorem dX6_init_9 : decode cX6_init 9 = .ok (.invokespecial 11, 3) := by decide +kernel
theorem dX6_init_12 : decode cX6_init 12 = .ok (.putfield 12, 3) := by decide +kernel
theorem dX6_init_15 : decode cX6_init 15 = .ok (.aload_n 0, 1) := by decide +kernel
theorem dX6_init_16 : decode cX6_init 16 = .ok (.new 18, 3) := by decide +kernel
theorem dX6_init_19 : decode cX6_init 19 = .ok (.dup, 1) := by decide +kernel
theorem dX6_init_20 : decode cX6_init 20 = .ok (.invokespecial 20, 3) := by decide +kernel
theorem dX6_init_23 : decode cX6_init 23 = .ok (.putfield 21, 3) := by decide +kernel
theorem dX6_init_26 : decode cX6_init 26 = .ok (.aload_n 0, 1) := by decide +kernel
theorem dX6_init_27 : decode cX6_init 27 = .ok (.bipush 120, 2) := by decide +kernel
theorem dX6_init_29 : decode cX6_init 29 = .ok (.newarray .int, 2) := by decide +kernel
theorem dX6_init_31 : decode cX6_init 31 = .ok (.putfield 25, 3) := by decide +kernel
theorem dX6_init_34 : decode cX6_init 34 = .ok (.aload_n 0, 1) := by decide +kernel
theorem dX6_init_35 : decode cX6_init 35 = .ok (.iconst 0, 1) := by decide +kernel
theorem dX6_init_36 : decode cX6_init 36 = .ok (.putfield 29, 3) := by decide +kernel
theorem dX6_init_39 : decode cX6_init 39 = .ok (.aload_n 0, 1) := by decide +kernel
theorem dX6_init_40 : decode cX6_init 40 = .ok (.iconst 0, 1) := by decide +kernel
theorem dX6_init_41 : decode cX6_init 41 = .ok (.putfield 33, 3) := by decide +kernel
theorem dX6_init_44 : decode cX6_init 44 = .ok (.aload_n 0, 1) := by decide +kernel
theorem dX6_init_45 : decode cX6_init 45 = .ok (.iconst 0, 1) := by decide +kernel
theorem dX6_init_46 : decode cX6_init 46 = .ok (.putfield 36, 3) := by decide +kernel
theorem dX6_init_49 : decode cX6_init 49 = .ok (.aload_n 0, 1) := by decide +kernel
theorem dX6_init_50 : decode cX6_init 50 = .ok (.iconst (-1), 1) := by decide +kernel
theorem dX6_init_51 : decode cX6_init 51 = .ok (.putfield 39, 3) := by decide +kernel
theorem dX6_init_54 : decode cX6_init 54 = .ok (.aload_n 0, 1) := by decide +kernel
theorem dX6_init_55 : decode cX6_init 55 = .ok (.iconst 0, 1) := by decide +kernel
theorem dX6_init_56 : decode cX6_init 56 = .ok (.putfield 42, 3) := by decide +kernel
theorem dX6_init_59 : decode cX6_init 59 = .ok (.return_, 1) := by decide +kernel
theorem dX6_findFault_0 : decode cX6_findFault 0 = .ok (.aload_n 0, 1) := by decide +kernel
theorem dX6_findFault_1 : decode cX6_findFault 1 = .ok (.invokevirtual 46, 3) := by decide +kernel
theorem dX6_findFault_4 : decode cX6_findFault 4 = .ok (.iconst 0, 1) := by decide +kernel
theorem dX6_findFault_5 : decode cX6_findFault 5 = .ok (.istore_n 1, 1) := by decide +kernel
theorem dX6_findFault_6 : decode cX6_findFault 6 = .ok (.iload_n 1, 1) := by decide +kernel
theorem dX6_findFault_7 : decode cX6_findFault 7 = .ok (.bipush 120, 2) := by decide +kernel
theorem dX6_findFault_9 : decode cX6_findFault 9 = .ok (.if_icmp .gt 54, 3) := by decide +kernel
theorem dX6_findFault_12 : decode cX6_findFault 12 = .ok (.aload_n 0, 1) := by decide +kernel
theorem dX6_findFault_13 : decode cX6_findFault 13 = .ok (.getfield 12, 3) := by decide +kernel
theorem dX6_findFault_16 : decode cX6_findFault 16 = .ok (.invokevirtual 49, 3) := by decide +kernel
theorem dX6_findFault_19 : decode cX6_findFault 19 = .ok (.aload_n 0, 1) := by decide +kernel
theorem dX6_findFault_20 : decode cX6_findFault 20 = .ok (.getfield 12, 3) := by decide +kernel
theorem dX6_findFault_23 : decode cX6_findFault 23 = .ok (.invokevirtual 52, 3) := by decide +kernel
theorem dX6_findFault_26 : decode cX6_findFault 26 = .ok (.ifCond .eq 6, 3) := by decide +kernel
theorem dX6_findFault_29 : decode cX6_findFault 29 = .ok (.goto 34, 3) := by decide +kernel
theorem dX6_findFault_32 : decode cX6_findFault 32 = .ok (.aload_n 0, 1) := by decide +kernel
theorem dX6_findFault_33 : decode cX6_findFault 33 = .ok (.getfield 12, 3) := by decide +kernel
theorem dX6_findFault_36 : decode cX6_findFault 36 = .ok (.invokevirtual 56, 3) := by decide +kernel
theorem dX6_findFault_39 : decode cX6_findFault 39 = .ok (.ifCond .ne 10, 3) := by decide +kernel
theorem dX6_findFault_42 : decode cX6_findFault 42 = .ok (.aload_n 0, 1) := by decide +kernel
theorem dX6_findFault_43 : decode cX6_findFault 43 = .ok (.invokevirtual 59, 3) := by decide +kernel
theorem dX6_findFault_46 : decode cX6_findFault 46 = .ok (.ifCond .ne 11, 3) := by decide +kernel
theorem dX6_findFault_49 : decode cX6_findFault 49 = .ok (.aload_n 0, 1) := by decide +kernel
theorem dX6_findFault_50 : decode cX6_findFault 50 = .ok (.getfield 12, 3) := by decide +kernel
theorem dX6_findFault_53 : decode cX6_findFault 53 = .ok (.getfield 62, 3) := by decide +kernel
theorem dX6_findFault_56 : decode cX6_findFault 56 = .ok (.ireturn, 1) := by decide +kernel
theorem dX6_findFault_57 : decode cX6_findFault 57 = .ok (.iinc 1 1, 3) := by decide +kernel
theorem dX6_findFault_60 : decode cX6_findFault 60 = .ok (.goto (-54), 3) := by decide +kernel
theorem dX6_findFault_63 : decode cX6_findFault 63 = .ok (.aload_n 0, 1) := by decide +kernel
theorem dX6_findFault_64 : decode cX6_findFault 64 = .ok (.getfield 39, 3) := by decide +kernel
theorem dX6_findFault_67 : decode cX6_findFault 67 = .ok (.iconst 2, 1) := by decide +kernel
theorem dX6_findFault_68 : decode cX6_findFault 68 = .ok (.if_icmp .ne 17, 3) := by decide +kernel
theorem dX6_findFault_71 : decode cX6_findFault 71 = .ok (.aload_n 0, 1) := by decide +kernel
theorem dX6_findFault_72 : decode cX6_findFault 72 = .ok (.getfield 42, 3) := by decide +kernel
theorem dX6_findFault_75 : decode cX6_findFault 75 = .ok (.ifCond .ne 10, 3) := by decide +kernel
theorem dX6_findFault_78 : decode cX6_findFault 78 = .ok (.aload_n 0, 1) := by decide +kernel
theorem dX6_findFault_79 : decode cX6_findFault 79 = .ok (.getfield 33, 3) := by decide +kernel
theorem dX6_findFault_82 : decode cX6_findFault 82 = .ok (.ifCond .le 11, 3) := by decide +kernel
theorem dX6_findFault_85 : decode cX6_findFault 85 = .ok (.aload_n 0, 1) := by decide +kernel
theorem dX6_findFault_86 : decode cX6_findFault 86 = .ok (.getfield 12, 3) := by decide +kernel
theorem dX6_findFault_89 : decode cX6_findFault 89 = .ok (.getfield 65, 3) := by decide +kernel
theorem dX6_findFault_92 : decode cX6_findFault 92 = .ok (.ireturn, 1) := by decide +kernel
theorem dX6_findFault_93 : decode cX6_findFault 93 = .ok (.aload_n 0, 1) := by decide +kernel
theorem dX6_findFault_94 : decode cX6_findFault 94 = .ok (.invokevirtual 68, 3) := by decide +kernel
theorem dX6_findFault_97 : decode cX6_findFault 97 = .ok (.iconst (-1), 1) := by decide +kernel
theorem dX6_findFault_98 : decode cX6_findFault 98 = .ok (.ireturn, 1) := by decide +kernel
theorem dX6_begin_0 : decode cX6_begin 0 = .ok (.aload_n 0, 1) := by decide +kernel
theorem dX6_begin_1 : decode cX6_begin 1 = .ok (.getfield 12, 3) := by decide +kernel
theorem dX6_begin_4 : decode cX6_begin 4 = .ok (.invokevirtual 71, 3) := by decide +kernel
theorem dX6_begin_7 : decode cX6_begin 7 = .ok (.aload_n 0, 1) := by decide +kernel
theorem dX6_begin_8 : decode cX6_begin 8 = .ok (.getfield 21, 3) := by decide +kernel
theorem dX6_begin_11 : decode cX6_begin 11 = .ok (.iconst 0, 1) := by decide +kernel
theorem dX6_begin_12 : decode cX6_begin 12 = .ok (.putfield 74, 3) := by decide +kernel
theorem dX6_begin_15 : decode cX6_begin 15 = .ok (.aload_n 0, 1) := by decide +kernel
theorem dX6_begin_16 : decode cX6_begin 16 = .ok (.getfield 21, 3) := by decide +kernel
theorem dX6_begin_19 : decode cX6_begin 19 = .ok (.iconst 0, 1) := by decide +kernel
theorem dX6_begin_20 : decode cX6_begin 20 = .ok (.putfield 77, 3) := by decide +kernel
theorem dX6_begin_23 : decode cX6_begin 23 = .ok (.aload_n 0, 1) := by decide +kernel
theorem dX6_begin_24 : decode cX6_begin 24 = .ok (.iconst 0, 1) := by decide +kernel
theorem dX6_begin_25 : decode cX6_begin 25 = .ok (.putfield 29, 3) := by decide +kernel
theorem dX6_begin_28 : decode cX6_begin 28 = .ok (.aload_n 0, 1) := by decide +kernel
theorem dX6_begin_29 : decode cX6_begin 29 = .ok (.iconst 0, 1) := by decide +kernel
theorem dX6_begin_30 : decode cX6_begin 30 = .ok (.putfield 33, 3) := by decide +kernel
theorem dX6_begin_33 : decode cX6_begin 33 = .ok (.aload_n 0, 1) := by decide +kernel
theorem dX6_begin_34 : decode cX6_begin 34 = .ok (.iconst 0, 1) := by decide +kernel
theorem dX6_begin_35 : decode cX6_begin 35 = .ok (.putfield 36, 3) := by decide +kernel
theorem dX6_begin_38 : decode cX6_begin 38 = .ok (.aload_n 0, 1) := by decide +kernel
theorem dX6_begin_39 : decode cX6_begin 39 = .ok (.iconst (-1), 1) := by decide +kernel
theorem dX6_begin_40 : decode cX6_begin 40 = .ok (.putfield 39, 3) := by decide +kernel
theorem dX6_begin_43 : decode cX6_begin 43 = .ok (.aload_n 0, 1) := by decide +kernel
theorem dX6_begin_44 : decode cX6_begin 44 = .ok (.iconst 0, 1) := by decide +kernel
theorem dX6_begin_45 : decode cX6_begin 45 = .ok (.putfield 42, 3) := by decide +kernel
theorem dX6_begin_48 : decode cX6_begin 48 = .ok (.return_, 1) := by decide +kernel
theorem dX6_takes_0 : decode cX6_takes 0 = .ok (.aload_n 0, 1) := by decide +kernel
theorem dX6_takes_1 : decode cX6_takes 1 = .ok (.getfield 42, 3) := by decide +kernel
theorem dX6_takes_4 : decode cX6_takes 4 = .ok (.ifCond .eq 15, 3) := by decide +kernel
theorem dX6_takes_7 : decode cX6_takes 7 = .ok (.aload_n 0, 1) := by decide +kernel
theorem dX6_takes_8 : decode cX6_takes 8 = .ok (.aload_n 0, 1) := by decide +kernel
theorem dX6_takes_9 : decode cX6_takes 9 = .ok (.getfield 12, 3) := by decide +kernel
theorem dX6_takes_12 : decode cX6_takes 12 = .ok (.invokevirtual 80, 3) := by decide +kernel
theorem dX6_takes_15 : decode cX6_takes 15 = .ok (.invokevirtual 84, 3) := by decide +kernel
theorem dX6_takes_18 : decode cX6_takes 18 = .ok (.ireturn, 1) := by decide +kernel
theorem dX6_takes_19 : decode cX6_takes 19 = .ok (.aload_n 0, 1) := by decide +kernel
theorem dX6_takes_20 : decode cX6_takes 20 = .ok (.getfield 12, 3) := by decide +kernel
theorem dX6_takes_23 : decode cX6_takes 23 = .ok (.invokevirtual 88, 3) := by decide +kernel
theorem dX6_takes_26 : decode cX6_takes 26 = .ok (.ifCond .eq 8, 3) := by decide +kernel
theorem dX6_takes_29 : decode cX6_takes 29 = .ok (.aload_n 0, 1) := by decide +kernel
theorem dX6_takes_30 : decode cX6_takes 30 = .ok (.invokevirtual 91, 3) := by decide +kernel
theorem dX6_takes_33 : decode cX6_takes 33 = .ok (.ireturn, 1) := by decide +kernel
theorem dX6_takes_34 : decode cX6_takes 34 = .ok (.aload_n 0, 1) := by decide +kernel
theorem dX6_takes_35 : decode cX6_takes 35 = .ok (.getfield 39, 3) := by decide +kernel
theorem dX6_takes_38 : decode cX6_takes 38 = .ok (.iconst (-1), 1) := by decide +kernel
theorem dX6_takes_39 : decode cX6_takes 39 = .ok (.if_icmp .eq 21, 3) := by decide +kernel
theorem dX6_takes_42 : decode cX6_takes 42 = .ok (.aload_n 0, 1) := by decide +kernel
theorem dX6_takes_43 : decode cX6_takes 43 = .ok (.aload_n 0, 1) := by decide +kernel
theorem dX6_takes_44 : decode cX6_takes 44 = .ok (.getfield 12, 3) := by decide +kernel
theorem dX6_takes_47 : decode cX6_takes 47 = .ok (.invokevirtual 80, 3) := by decide +kernel
theorem dX6_takes_50 : decode cX6_takes 50 = .ok (.invokevirtual 94, 3) := by decide +kernel
theorem dX6_takes_53 : decode cX6_takes 53 = .ok (.ifCond .eq 7, 3) := by decide +kernel
theorem dX6_takes_56 : decode cX6_takes 56 = .ok (.iconst 1, 1) := by decide +kernel
theorem dX6_takes_57 : decode cX6_takes 57 = .ok (.goto 4, 3) := by decide +kernel
theorem dX6_takes_60 : decode cX6_takes 60 = .ok (.iconst 0, 1) := by decide +kernel
theorem dX6_takes_61 : decode cX6_takes 61 = .ok (.ireturn, 1) := by decide +kernel
theorem dX6_takesHeading_0 : decode cX6_takesHeading 0 = .ok (.aload_n 0, 1) := by decide +kernel
theorem dX6_takesHeading_1 : decode cX6_takesHeading 1 = .ok (.getfield 33, 3) := by decide +kernel
theorem dX6_takesHeading_4 : decode cX6_takesHeading 4 = .ok (.ifCond .gt 30, 3) := by decide +kernel
theorem dX6_takesHeading_7 : decode cX6_takesHeading 7 = .ok (.aload_n 0, 1) := by decide +kernel
theorem dX6_takesHeading_8 : decode cX6_takesHeading 8 = .ok (.getfield 39, 3) := by decide +kernel
theorem dX6_takesHeading_11 : decode cX6_takesHeading 11 = .ok (.iconst 2, 1) := by decide +kernel
theorem dX6_takesHeading_12 : decode cX6_takesHeading 12 = .ok (.if_icmp .ge 22, 3) := by decide +kernel
theorem dX6_takesHeading_15 : decode cX6_takesHeading 15 = .ok (.aload_n 0, 1) := by decide +kernel
theorem dX6_takesHeading_16 : decode cX6_takesHeading 16 = .ok (.getfield 12, 3) := by decide +kernel
theorem dX6_takesHeading_19 : decode cX6_takesHeading 19 = .ok (.aload_n 0, 1) := by decide +kernel
theorem dX6_takesHeading_20 : decode cX6_takesHeading 20 = .ok (.getfield 39, 3) := by decide +kernel
theorem dX6_takesHeading_23 : decode cX6_takesHeading 23 = .ok (.iconst 1, 1) := by decide +kernel
theorem dX6_takesHeading_24 : decode cX6_takesHeading 24 = .ok (.iadd, 1) := by decide +kernel
theorem dX6_takesHeading_25 : decode cX6_takesHeading 25 = .ok (.invokestatic 97, 3) := by decide +kernel
theorem dX6_takesHeading_28 : decode cX6_takesHeading 28 = .ok (.invokevirtual 101, 3) := by decide +kernel
theorem dX6_takesHeading_31 : decode cX6_takesHeading 31 = .ok (.ifCond .ne 5, 3) := by decide +kernel
theorem dX6_takesHeading_34 : decode cX6_takesHeading 34 = .ok (.iconst 0, 1) := by decide +kernel
theorem dX6_takesHeading_35 : decode cX6_takesHeading 35 = .ok (.ireturn, 1) := by decide +kernel
theorem dX6_takesHeading_36 : decode cX6_takesHeading 36 = .ok (.aload_n 0, 1) := by decide +kernel
theorem dX6_takesHeading_37 : decode cX6_takesHeading 37 = .ok (.getfield 39, 3) := by decide +kernel
theorem dX6_takesHeading_40 : decode cX6_takesHeading 40 = .ok (.iconst (-1), 1) := by decide +kernel
theorem dX6_takesHeading_41 : decode cX6_takesHeading 41 = .ok (.if_icmp .eq 7, 3) := by decide +kernel
theorem dX6_takesHeading_44 : decode cX6_takesHeading 44 = .ok (.aload_n 0, 1) := by decide +kernel
theorem dX6_takesHeading_45 : decode cX6_takesHeading 45 = .ok (.invokevirtual 68, 3) := by decide +kernel
theorem dX6_takesHeading_48 : decode cX6_takesHeading 48 = .ok (.aload_n 0, 1) := by decide +kernel
theorem dX6_takesHeading_49 : decode cX6_takesHeading 49 = .ok (.dup, 1) := by decide +kernel
theorem dX6_takesHeading_50 : decode cX6_takesHeading 50 = .ok (.getfield 39, 3) := by decide +kernel
theorem dX6_takesHeading_53 : decode cX6_takesHeading 53 = .ok (.iconst 1, 1) := by decide +kernel
theorem dX6_takesHeading_54 : decode cX6_takesHeading 54 = .ok (.iadd, 1) := by decide +kernel
theorem dX6_takesHeading_55 : decode cX6_takesHeading 55 = .ok (.putfield 39, 3) := by decide +kernel
theorem dX6_takesHeading_58 : decode cX6_takesHeading 58 = .ok (.aload_n 0, 1) := by decide +kernel
theorem dX6_takesHeading_59 : decode cX6_takesHeading 59 = .ok (.iconst 1, 1) := by decide +kernel
theorem dX6_takesHeading_60 : decode cX6_takesHeading 60 = .ok (.putfield 42, 3) := by decide +kernel
theorem dX6_takesHeading_63 : decode cX6_takesHeading 63 = .ok (.iconst 1, 1) := by decide +kernel
theorem dX6_takesHeading_64 : decode cX6_takesHeading 64 = .ok (.ireturn, 1) := by decide +kernel
theorem dX6_endSection_0 : decode cX6_endSection 0 = .ok (.aload_n 0, 1) := by decide +kernel
theorem dX6_endSection_1 : decode cX6_endSection 1 = .ok (.iconst 1, 1) := by decide +kernel
theorem dX6_endSection_2 : decode cX6_endSection 2 = .ok (.invokevirtual 105, 3) := by decide +kernel
theorem dX6_endSection_5 : decode cX6_endSection 5 = .ok (.aload_n 0, 1) := by decide +kernel
theorem dX6_endSection_6 : decode cX6_endSection 6 = .ok (.getfield 21, 3) := by decide +kernel
theorem dX6_endSection_9 : decode cX6_endSection 9 = .ok (.getfield 109, 3) := by decide +kernel
theorem dX6_endSection_12 : decode cX6_endSection 12 = .ok (.aload_n 0, 1) := by decide +kernel
theorem dX6_endSection_13 : decode cX6_endSection 13 = .ok (.getfield 39, 3) := by decide +kernel
theorem dX6_endSection_16 : decode cX6_endSection 16 = .ok (.aload_n 0, 1) := by decide +kernel
theorem dX6_endSection_17 : decode cX6_endSection 17 = .ok (.getfield 21, 3) := by decide +kernel
theorem dX6_endSection_20 : decode cX6_endSection 20 = .ok (.getfield 74, 3) := by decide +kernel
theorem dX6_endSection_23 : decode cX6_endSection 23 = .ok (.iastore, 1) := by decide +kernel
theorem dX6_endSection_24 : decode cX6_endSection 24 = .ok (.return_, 1) := by decide +kernel
theorem dX6_takesPart_0 : decode cX6_takesPart 0 = .ok (.iload_n 1, 1) := by decide +kernel
theorem dX6_takesPart_1 : decode cX6_takesPart 1 = .ok (.bipush 40, 2) := by decide +kernel
theorem dX6_takesPart_3 : decode cX6_takesPart 3 = .ok (.if_icmp .ne 31, 3) := by decide +kernel
theorem dX6_takesPart_6 : decode cX6_takesPart 6 = .ok (.aload_n 0, 1) := by decide +kernel
theorem dX6_takesPart_7 : decode cX6_takesPart 7 = .ok (.getfield 33, 3) := by decide +kernel
theorem dX6_takesPart_10 : decode cX6_takesPart 10 = .ok (.bipush 8, 2) := by decide +kernel
theorem dX6_takesPart_12 : decode cX6_takesPart 12 = .ok (.if_icmp .lt 5, 3) := by decide +kernel
theorem dX6_takesPart_15 : decode cX6_takesPart 15 = .ok (.iconst 0, 1) := by decide +kernel
theorem dX6_takesPart_16 : decode cX6_takesPart 16 = .ok (.ireturn, 1) := by decide +kernel
theorem dX6_takesPart_17 : decode cX6_takesPart 17 = .ok (.aload_n 0, 1) := by decide +kernel
theorem dX6_takesPart_18 : decode cX6_takesPart 18 = .ok (.dup, 1) := by decide +kernel
theorem dX6_takesPart_19 : decode cX6_takesPart 19 = .ok (.getfield 33, 3) := by decide +kernel
theorem dX6_takesPart_22 : decode cX6_takesPart 22 = .ok (.iconst 1, 1) := by decide +kernel
theorem dX6_takesPart_23 : decode cX6_takesPart 23 = .ok (.iadd, 1) := by decide +kernel
theorem dX6_takesPart_24 : decode cX6_takesPart 24 = .ok (.putfield 33, 3) := by decide +kernel
theorem dX6_takesPart_27 : decode cX6_takesPart 27 = .ok (.aload_n 0, 1) := by decide +kernel
theorem dX6_takesPart_28 : decode cX6_takesPart 28 = .ok (.iload_n 1, 1) := by decide +kernel
theorem dX6_takesPart_29 : decode cX6_takesPart 29 = .ok (.invokevirtual 112, 3) := by decide +kernel
theorem dX6_takesPart_32 : decode cX6_takesPart 32 = .ok (.iconst 1, 1) := by decide +kernel
theorem dX6_takesPart_33 : decode cX6_takesPart 33 = .ok (.ireturn, 1) := by decide +kernel
theorem dX6_takesPart_34 : decode cX6_takesPart 34 = .ok (.iload_n 1, 1) := by decide +kernel
theorem dX6_takesPart_35 : decode cX6_takesPart 35 = .ok (.bipush 33, 2) := by decide +kernel
theorem dX6_takesPart_37 : decode cX6_takesPart 37 = .ok (.if_icmp .ne 31, 3) := by decide +kernel
theorem dX6_takesPart_40 : decode cX6_takesPart 40 = .ok (.aload_n 0, 1) := by decide +kernel
theorem dX6_takesPart_41 : decode cX6_takesPart 41 = .ok (.getfield 36, 3) := by decide +kernel
theorem dX6_takesPart_44 : decode cX6_takesPart 44 = .ok (.bipush 8, 2) := by decide +kernel
theorem dX6_takesPart_46 : decode cX6_takesPart 46 = .ok (.if_icmp .lt 5, 3) := by decide +kernel
theorem dX6_takesPart_49 : decode cX6_takesPart 49 = .ok (.iconst 0, 1) := by decide +kernel
theorem dX6_takesPart_50 : decode cX6_takesPart 50 = .ok (.ireturn, 1) := by decide +kernel
theorem dX6_takesPart_51 : decode cX6_takesPart 51 = .ok (.aload_n 0, 1) := by decide +kernel
theorem dX6_takesPart_52 : decode cX6_takesPart 52 = .ok (.dup, 1) := by decide +kernel
theorem dX6_takesPart_53 : decode cX6_takesPart 53 = .ok (.getfield 36, 3) := by decide +kernel
theorem dX6_takesPart_56 : decode cX6_takesPart 56 = .ok (.iconst 1, 1) := by decide +kernel
theorem dX6_takesPart_57 : decode cX6_takesPart 57 = .ok (.iadd, 1) := by decide +kernel
theorem dX6_takesPart_58 : decode cX6_takesPart 58 = .ok (.putfield 36, 3) := by decide +kernel
theorem dX6_takesPart_61 : decode cX6_takesPart 61 = .ok (.aload_n 0, 1) := by decide +kernel
theorem dX6_takesPart_62 : decode cX6_takesPart 62 = .ok (.iload_n 1, 1) := by decide +kernel
theorem dX6_takesPart_63 : decode cX6_takesPart 63 = .ok (.invokevirtual 112, 3) := by decide +kernel
theorem dX6_takesPart_66 : decode cX6_takesPart 66 = .ok (.iconst 1, 1) := by decide +kernel
theorem dX6_takesPart_67 : decode cX6_takesPart 67 = .ok (.ireturn, 1) := by decide +kernel
theorem dX6_takesPart_68 : decode cX6_takesPart 68 = .ok (.aload_n 0, 1) := by decide +kernel
theorem dX6_takesPart_69 : decode cX6_takesPart 69 = .ok (.iload_n 1, 1) := by decide +kernel
theorem dX6_takesPart_70 : decode cX6_takesPart 70 = .ok (.invokevirtual 115, 3) := by decide +kernel
theorem dX6_takesPart_73 : decode cX6_takesPart 73 = .ok (.ireturn, 1) := by decide +kernel
theorem dX6_takesNumberOrName_0 : decode cX6_takesNumberOrName 0 = .ok (.aload_n 0, 1) := by decide +kernel
theorem dX6_takesNumberOrName_1 : decode cX6_takesNumberOrName 1 = .ok (.getfield 12, 3) := by decide +kernel
theorem dX6_takesNumberOrName_4 : decode cX6_takesNumberOrName 4 = .ok (.getfield 118, 3) := by decide +kernel
theorem dX6_takesNumberOrName_7 : decode cX6_takesNumberOrName 7 = .ok (.aload_n 0, 1) := by decide +kernel
theorem dX6_takesNumberOrName_8 : decode cX6_takesNumberOrName 8 = .ok (.getfield 12, 3) := by decide +kernel
theorem dX6_takesNumberOrName_11 : decode cX6_takesNumberOrName 11 = .ok (.getfield 62, 3) := by decide +kernel
theorem dX6_takesNumberOrName_14 : decode cX6_takesNumberOrName 14 = .ok (.isub, 1) := by decide +kernel
theorem dX6_takesNumberOrName_15 : decode cX6_takesNumberOrName 15 = .ok (.istore_n 2, 1) := by decide +kernel
theorem dX6_takesNumberOrName_16 : decode cX6_takesNumberOrName 16 = .ok (.iload_n 1, 1) := by decide +kernel
theorem dX6_takesNumberOrName_17 : decode cX6_takesNumberOrName 17 = .ok (.invokestatic 121, 3) := by decide +kernel
theorem dX6_takesNumberOrName_20 : decode cX6_takesNumberOrName 20 = .ok (.ifCond .eq 25, 3) := by decide +kernel
theorem dX6_takesNumberOrName_23 : decode cX6_takesNumberOrName 23 = .ok (.iload_n 2, 1) := by decide +kernel
theorem dX6_takesNumberOrName_24 : decode cX6_takesNumberOrName 24 = .ok (.iconst 5, 1) := by decide +kernel
theorem dX6_takesNumberOrName_25 : decode cX6_takesNumberOrName 25 = .ok (.if_icmp .gt 20, 3) := by decide +kernel
theorem dX6_takesNumberOrName_28 : decode cX6_takesNumberOrName 28 = .ok (.aload_n 0, 1) := by decide +kernel
theorem dX6_takesNumberOrName_29 : decode cX6_takesNumberOrName 29 = .ok (.getfield 21, 3) := by decide +kernel
theorem dX6_takesNumberOrName_32 : decode cX6_takesNumberOrName 32 = .ok (.aload_n 0, 1) := by decide +kernel
theorem dX6_takesNumberOrName_33 : decode cX6_takesNumberOrName 33 = .ok (.getfield 12, 3) := by decide +kernel
theorem dX6_takesNumberOrName_36 : decode cX6_takesNumberOrName 36 = .ok (.invokevirtual 124, 3) := by decide +kernel
theorem dX6_takesNumberOrName_39 : decode cX6_takesNumberOrName 39 = .ok (.invokevirtual 127, 3) := by decide +kernel
theorem dX6_takesNumberOrName_42 : decode cX6_takesNumberOrName 42 = .ok (.goto 37, 3) := by decide +kernel
theorem dX6_takesNumberOrName_45 : decode cX6_takesNumberOrName 45 = .ok (.iload_n 2, 1) := by decide +kernel
theorem dX6_takesNumberOrName_46 : decode cX6_takesNumberOrName 46 = .ok (.iconst 1, 1) := by decide +kernel
theorem dX6_takesNumberOrName_47 : decode cX6_takesNumberOrName 47 = .ok (.if_icmp .ne 30, 3) := by decide +kernel
theorem dX6_takesNumberOrName_50 : decode cX6_takesNumberOrName 50 = .ok (.aload_n 0, 1) := by decide +kernel
theorem dX6_takesNumberOrName_51 : decode cX6_takesNumberOrName 51 = .ok (.getfield 39, 3) := by decide +kernel
theorem dX6_takesNumberOrName_54 : decode cX6_takesNumberOrName 54 = .ok (.invokestatic 130, 3) := by decide +kernel
theorem dX6_takesNumberOrName_57 : decode cX6_takesNumberOrName 57 = .ok (.iload_n 1, 1) := by decide +kernel
theorem dX6_takesNumberOrName_58 : decode cX6_takesNumberOrName 58 = .ok (.i2c, 1) := by decide +kernel
theorem dX6_takesNumberOrName_59 : decode cX6_takesNumberOrName 59 = .ok (.invokevirtual 133, 3) := by decide +kernel
theorem dX6_takesNumberOrName_62 : decode cX6_takesNumberOrName 62 = .ok (.ifCond .lt 15, 3) := by decide +kernel
theorem dX6_takesNumberOrName_65 : decode cX6_takesNumberOrName 65 = .ok (.aload_n 0, 1) := by decide +kernel
theorem dX6_takesNumberOrName_66 : decode cX6_takesNumberOrName 66 = .ok (.getfield 21, 3) := by decide +kernel
theorem dX6_takesNumberOrName_69 : decode cX6_takesNumberOrName 69 = .ok (.iload_n 1, 1) := by decide +kernel
theorem dX6_takesNumberOrName_70 : decode cX6_takesNumberOrName 70 = .ok (.ineg, 1) := by decide +kernel
theorem dX6_takesNumberOrName_71 : decode cX6_takesNumberOrName 71 = .ok (.invokevirtual 127, 3) := by decide +kernel
theorem dX6_takesNumberOrName_74 : decode cX6_takesNumberOrName 74 = .ok (.goto 5, 3) := by decide +kernel
theorem dX6_takesNumberOrName_77 : decode cX6_takesNumberOrName 77 = .ok (.iconst 0, 1) := by decide +kernel
theorem dX6_takesNumberOrName_78 : decode cX6_takesNumberOrName 78 = .ok (.ireturn, 1) := by decide +kernel
theorem dX6_takesNumberOrName_79 : decode cX6_takesNumberOrName 79 = .ok (.aload_n 0, 1) := by decide +kernel
theorem dX6_takesNumberOrName_80 : decode cX6_takesNumberOrName 80 = .ok (.getfield 21, 3) := by decide +kernel
theorem dX6_takesNumberOrName_83 : decode cX6_takesNumberOrName 83 = .ok (.dup, 1) := by decide +kernel
theorem dX6_takesNumberOrName_84 : decode cX6_takesNumberOrName 84 = .ok (.getfield 77, 3) := by decide +kernel
theorem dX6_takesNumberOrName_87 : decode cX6_takesNumberOrName 87 = .ok (.iconst 1, 1) := by decide +kernel
theorem dX6_takesNumberOrName_88 : decode cX6_takesNumberOrName 88 = .ok (.iadd, 1) := by decide +kernel
theorem dX6_takesNumberOrName_89 : decode cX6_takesNumberOrName 89 = .ok (.putfield 77, 3) := by decide +kernel
theorem dX6_takesNumberOrName_92 : decode cX6_takesNumberOrName 92 = .ok (.aload_n 0, 1) := by decide +kernel
theorem dX6_takesNumberOrName_93 : decode cX6_takesNumberOrName 93 = .ok (.invokevirtual 139, 3) := by decide +kernel
theorem dX6_takesNumberOrName_96 : decode cX6_takesNumberOrName 96 = .ok (.iconst 1, 1) := by decide +kernel
theorem dX6_takesNumberOrName_97 : decode cX6_takesNumberOrName 97 = .ok (.ireturn, 1) := by decide +kernel
theorem dX6_endPart_0 : decode cX6_endPart 0 = .ok (.iconst 0, 1) := by decide +kernel
theorem dX6_endPart_1 : decode cX6_endPart 1 = .ok (.istore_n 1, 1) := by decide +kernel
theorem dX6_endPart_2 : decode cX6_endPart 2 = .ok (.iload_n 1, 1) := by decide +kernel
theorem dX6_endPart_3 : decode cX6_endPart 3 = .ok (.bipush 8, 2) := by decide +kernel
theorem dX6_endPart_5 : decode cX6_endPart 5 = .ok (.if_icmp .ge 47, 3) := by decide +kernel
theorem dX6_endPart_8 : decode cX6_endPart 8 = .ok (.aload_n 0, 1) := by decide +kernel
theorem dX6_endPart_9 : decode cX6_endPart 9 = .ok (.invokevirtual 142, 3) := by decide +kernel
theorem dX6_endPart_12 : decode cX6_endPart 12 = .ok (.bipush 33, 2) := by decide +kernel
theorem dX6_endPart_14 : decode cX6_endPart 14 = .ok (.if_icmp .ne 38, 3) := by decide +kernel
theorem dX6_endPart_17 : decode cX6_endPart 17 = .ok (.aload_n 0, 1) := by decide +kernel
theorem dX6_endPart_18 : decode cX6_endPart 18 = .ok (.getfield 21, 3) := by decide +kernel
theorem dX6_endPart_21 : decode cX6_endPart 21 = .ok (.bipush (-33), 2) := by decide +kernel
theorem dX6_endPart_23 : decode cX6_endPart 23 = .ok (.invokevirtual 127, 3) := by decide +kernel
theorem dX6_endPart_26 : decode cX6_endPart 26 = .ok (.aload_n 0, 1) := by decide +kernel
theorem dX6_endPart_27 : decode cX6_endPart 27 = .ok (.dup, 1) := by decide +kernel
theorem dX6_endPart_28 : decode cX6_endPart 28 = .ok (.getfield 29, 3) := by decide +kernel
theorem dX6_endPart_31 : decode cX6_endPart 31 = .ok (.iconst 1, 1) := by decide +kernel
theorem dX6_endPart_32 : decode cX6_endPart 32 = .ok (.isub, 1) := by decide +kernel
theorem dX6_endPart_33 : decode cX6_endPart 33 = .ok (.putfield 29, 3) := by decide +kernel
theorem dX6_endPart_36 : decode cX6_endPart 36 = .ok (.aload_n 0, 1) := by decide +kernel
theorem dX6_endPart_37 : decode cX6_endPart 37 = .ok (.dup, 1) := by decide +kernel
theorem dX6_endPart_38 : decode cX6_endPart 38 = .ok (.getfield 36, 3) := by decide +kernel
theorem dX6_endPart_41 : decode cX6_endPart 41 = .ok (.iconst 1, 1) := by decide +kernel
theorem dX6_endPart_42 : decode cX6_endPart 42 = .ok (.isub, 1) := by decide +kernel
theorem dX6_endPart_43 : decode cX6_endPart 43 = .ok (.putfield 36, 3) := by decide +kernel
theorem dX6_endPart_46 : decode cX6_endPart 46 = .ok (.iinc 1 1, 3) := by decide +kernel
theorem dX6_endPart_49 : decode cX6_endPart 49 = .ok (.goto (-47), 3) := by decide +kernel
theorem dX6_endPart_52 : decode cX6_endPart 52 = .ok (.aload_n 0, 1) := by decide +kernel
theorem dX6_endPart_53 : decode cX6_endPart 53 = .ok (.iconst 0, 1) := by decide +kernel
theorem dX6_endPart_54 : decode cX6_endPart 54 = .ok (.putfield 42, 3) := by decide +kernel
theorem dX6_endPart_57 : decode cX6_endPart 57 = .ok (.return_, 1) := by decide +kernel
theorem dX6_takesSign_0 : decode cX6_takesSign 0 = .ok (.iload_n 1, 1) := by decide +kernel
theorem dX6_takesSign_1 : decode cX6_takesSign 1 = .ok (.bipush 41, 2) := by decide +kernel
theorem dX6_takesSign_3 : decode cX6_takesSign 3 = .ok (.if_icmp .ne 8, 3) := by decide +kernel
theorem dX6_takesSign_6 : decode cX6_takesSign 6 = .ok (.aload_n 0, 1) := by decide +kernel
theorem dX6_takesSign_7 : decode cX6_takesSign 7 = .ok (.invokevirtual 145, 3) := by decide +kernel
theorem dX6_takesSign_10 : decode cX6_takesSign 10 = .ok (.ireturn, 1) := by decide +kernel
theorem dX6_takesSign_11 : decode cX6_takesSign 11 = .ok (.iload_n 1, 1) := by decide +kernel
theorem dX6_takesSign_12 : decode cX6_takesSign 12 = .ok (.invokestatic 148, 3) := by decide +kernel
theorem dX6_takesSign_15 : decode cX6_takesSign 15 = .ok (.istore_n 2, 1) := by decide +kernel
theorem dX6_takesSign_16 : decode cX6_takesSign 16 = .ok (.iload_n 2, 1) := by decide +kernel
theorem dX6_takesSign_17 : decode cX6_takesSign 17 = .ok (.ifCond .ne 5, 3) := by decide +kernel
theorem dX6_takesSign_20 : decode cX6_takesSign 20 = .ok (.iconst 0, 1) := by decide +kernel
theorem dX6_takesSign_21 : decode cX6_takesSign 21 = .ok (.ireturn, 1) := by decide +kernel
theorem dX6_takesSign_22 : decode cX6_takesSign 22 = .ok (.iload_n 2, 1) := by decide +kernel
theorem dX6_takesSign_23 : decode cX6_takesSign 23 = .ok (.iconst 3, 1) := by decide +kernel
theorem dX6_takesSign_24 : decode cX6_takesSign 24 = .ok (.if_icmp .ne 21, 3) := by decide +kernel
theorem dX6_takesSign_27 : decode cX6_takesSign 27 = .ok (.aload_n 0, 1) := by decide +kernel
theorem dX6_takesSign_28 : decode cX6_takesSign 28 = .ok (.iconst 4, 1) := by decide +kernel
theorem dX6_takesSign_29 : decode cX6_takesSign 29 = .ok (.invokevirtual 105, 3) := by decide +kernel
theorem dX6_takesSign_32 : decode cX6_takesSign 32 = .ok (.aload_n 0, 1) := by decide +kernel
theorem dX6_takesSign_33 : decode cX6_takesSign 33 = .ok (.invokevirtual 142, 3) := by decide +kernel
theorem dX6_takesSign_36 : decode cX6_takesSign 36 = .ok (.invokestatic 148, 3) := by decide +kernel
theorem dX6_takesSign_39 : decode cX6_takesSign 39 = .ok (.iconst 3, 1) := by decide +kernel
theorem dX6_takesSign_40 : decode cX6_takesSign 40 = .ok (.if_icmp .ne 5, 3) := by decide +kernel
theorem dX6_takesSign_43 : decode cX6_takesSign 43 = .ok (.iconst 0, 1) := by decide +kernel
theorem dX6_takesSign_44 : decode cX6_takesSign 44 = .ok (.ireturn, 1) := by decide +kernel
theorem dX6_takesSign_45 : decode cX6_takesSign 45 = .ok (.aload_n 0, 1) := by decide +kernel
theorem dX6_takesSign_46 : decode cX6_takesSign 46 = .ok (.iload_n 2, 1) := by decide +kernel
theorem dX6_takesSign_47 : decode cX6_takesSign 47 = .ok (.invokevirtual 105, 3) := by decide +kernel
theorem dX6_takesSign_50 : decode cX6_takesSign 50 = .ok (.aload_n 0, 1) := by decide +kernel
theorem dX6_takesSign_51 : decode cX6_takesSign 51 = .ok (.iload_n 1, 1) := by decide +kernel
theorem dX6_takesSign_52 : decode cX6_takesSign 52 = .ok (.invokevirtual 112, 3) := by decide +kernel
theorem dX6_takesSign_55 : decode cX6_takesSign 55 = .ok (.aload_n 0, 1) := by decide +kernel
theorem dX6_takesSign_56 : decode cX6_takesSign 56 = .ok (.iconst 1, 1) := by decide +kernel
theorem dX6_takesSign_57 : decode cX6_takesSign 57 = .ok (.putfield 42, 3) := by decide +kernel
theorem dX6_takesSign_60 : decode cX6_takesSign 60 = .ok (.iconst 1, 1) := by decide +kernel
theorem dX6_takesSign_61 : decode cX6_takesSign 61 = .ok (.ireturn, 1) := by decide +kernel
theorem dX6_closes_0 : decode cX6_closes 0 = .ok (.aload_n 0, 1) := by decide +kernel
theorem dX6_closes_1 : decode cX6_closes 1 = .ok (.getfield 33, 3) := by decide +kernel
theorem dX6_closes_4 : decode cX6_closes 4 = .ok (.ifCond .ne 5, 3) := by decide +kernel
theorem dX6_closes_7 : decode cX6_closes 7 = .ok (.iconst 0, 1) := by decide +kernel
theorem dX6_closes_8 : decode cX6_closes 8 = .ok (.ireturn, 1) := by decide +kernel
theorem dX6_closes_9 : decode cX6_closes 9 = .ok (.aload_n 0, 1) := by decide +kernel
theorem dX6_closes_10 : decode cX6_closes 10 = .ok (.iconst 1, 1) := by decide +kernel
theorem dX6_closes_11 : decode cX6_closes 11 = .ok (.invokevirtual 105, 3) := by decide +kernel
theorem dX6_closes_14 : decode cX6_closes 14 = .ok (.aload_n 0, 1) := by decide +kernel
theorem dX6_closes_15 : decode cX6_closes 15 = .ok (.invokevirtual 142, 3) := by decide +kernel
theorem dX6_closes_18 : decode cX6_closes 18 = .ok (.bipush 40, 2) := by decide +kernel
theorem dX6_closes_20 : decode cX6_closes 20 = .ok (.if_icmp .ne 13, 3) := by decide +kernel
theorem dX6_closes_23 : decode cX6_closes 23 = .ok (.aload_n 0, 1) := by decide +kernel
theorem dX6_closes_24 : decode cX6_closes 24 = .ok (.dup, 1) := by decide +kernel
theorem dX6_closes_25 : decode cX6_closes 25 = .ok (.getfield 29, 3) := by decide +kernel
theorem dX6_closes_28 : decode cX6_closes 28 = .ok (.iconst 1, 1) := by decide +kernel
theorem dX6_closes_29 : decode cX6_closes 29 = .ok (.isub, 1) := by decide +kernel
theorem dX6_closes_30 : decode cX6_closes 30 = .ok (.putfield 29, 3) := by decide +kernel
theorem dX6_closes_33 : decode cX6_closes 33 = .ok (.aload_n 0, 1) := by decide +kernel
theorem dX6_closes_34 : decode cX6_closes 34 = .ok (.dup, 1) := by decide +kernel
theorem dX6_closes_35 : decode cX6_closes 35 = .ok (.getfield 33, 3) := by decide +kernel
theorem dX6_closes_38 : decode cX6_closes 38 = .ok (.iconst 1, 1) := by decide +kernel
theorem dX6_closes_39 : decode cX6_closes 39 = .ok (.isub, 1) := by decide +kernel
theorem dX6_closes_40 : decode cX6_closes 40 = .ok (.putfield 33, 3) := by decide +kernel
theorem dX6_closes_43 : decode cX6_closes 43 = .ok (.aload_n 0, 1) := by decide +kernel
theorem dX6_closes_44 : decode cX6_closes 44 = .ok (.invokevirtual 139, 3) := by decide +kernel
theorem dX6_closes_47 : decode cX6_closes 47 = .ok (.iconst 1, 1) := by decide +kernel
theorem dX6_closes_48 : decode cX6_closes 48 = .ok (.ireturn, 1) := by decide +kernel
theorem dX6_release_0 : decode cX6_release 0 = .ok (.iconst 0, 1) := by decide +kernel
theorem dX6_release_1 : decode cX6_release 1 = .ok (.istore_n 2, 1) := by decide +kernel
theorem dX6_release_2 : decode cX6_release 2 = .ok (.iload_n 2, 1) := by decide +kernel
theorem dX6_release_3 : decode cX6_release 3 = .ok (.bipush 120, 2) := by decide +kernel
theorem dX6_release_5 : decode cX6_release 5 = .ok (.if_icmp .ge 42, 3) := by decide +kernel
theorem dX6_release_8 : decode cX6_release 8 = .ok (.aload_n 0, 1) := by decide +kernel
theorem dX6_release_9 : decode cX6_release 9 = .ok (.invokevirtual 142, 3) := by decide +kernel
theorem dX6_release_12 : decode cX6_release 12 = .ok (.invokestatic 148, 3) := by decide +kernel
theorem dX6_release_15 : decode cX6_release 15 = .ok (.iload_n 1, 1) := by decide +kernel
theorem dX6_release_16 : decode cX6_release 16 = .ok (.if_icmp .lt 31, 3) := by decide +kernel
theorem dX6_release_19 : decode cX6_release 19 = .ok (.aload_n 0, 1) := by decide +kernel
theorem dX6_release_20 : decode cX6_release 20 = .ok (.getfield 21, 3) := by decide +kernel
theorem dX6_release_23 : decode cX6_release 23 = .ok (.aload_n 0, 1) := by decide +kernel
theorem dX6_release_24 : decode cX6_release 24 = .ok (.invokevirtual 142, 3) := by decide +kernel
theorem dX6_release_27 : decode cX6_release 27 = .ok (.ineg, 1) := by decide +kernel
theorem dX6_release_28 : decode cX6_release 28 = .ok (.invokevirtual 127, 3) := by decide +kernel
theorem dX6_release_31 : decode cX6_release 31 = .ok (.aload_n 0, 1) := by decide +kernel
theorem dX6_release_32 : decode cX6_release 32 = .ok (.dup, 1) := by decide +kernel
theorem dX6_release_33 : decode cX6_release 33 = .ok (.getfield 29, 3) := by decide +kernel
theorem dX6_release_36 : decode cX6_release 36 = .ok (.iconst 1, 1) := by decide +kernel
theorem dX6_release_37 : decode cX6_release 37 = .ok (.isub, 1) := by decide +kernel
theorem dX6_release_38 : decode cX6_release 38 = .ok (.putfield 29, 3) := by decide +kernel
theorem dX6_release_41 : decode cX6_release 41 = .ok (.iinc 2 1, 3) := by decide +kernel
theorem dX6_release_44 : decode cX6_release 44 = .ok (.goto (-42), 3) := by decide +kernel
theorem dX6_release_47 : decode cX6_release 47 = .ok (.return_, 1) := by decide +kernel
theorem dX6_hold_0 : decode cX6_hold 0 = .ok (.aload_n 0, 1) := by decide +kernel
theorem dX6_hold_1 : decode cX6_hold 1 = .ok (.getfield 29, 3) := by decide +kernel
theorem dX6_hold_4 : decode cX6_hold 4 = .ok (.bipush 120, 2) := by decide +kernel
theorem dX6_hold_6 : decode cX6_hold 6 = .ok (.if_icmp .lt 4, 3) := by decide +kernel
theorem dX6_hold_9 : decode cX6_hold 9 = .ok (.return_, 1) := by decide +kernel
theorem dX6_hold_10 : decode cX6_hold 10 = .ok (.aload_n 0, 1) := by decide +kernel
theorem dX6_hold_11 : decode cX6_hold 11 = .ok (.getfield 25, 3) := by decide +kernel
theorem dX6_hold_14 : decode cX6_hold 14 = .ok (.aload_n 0, 1) := by decide +kernel
theorem dX6_hold_15 : decode cX6_hold 15 = .ok (.getfield 29, 3) := by decide +kernel
theorem dX6_hold_18 : decode cX6_hold 18 = .ok (.iload_n 1, 1) := by decide +kernel
theorem dX6_hold_19 : decode cX6_hold 19 = .ok (.iastore, 1) := by decide +kernel
theorem dX6_hold_20 : decode cX6_hold 20 = .ok (.aload_n 0, 1) := by decide +kernel
theorem dX6_hold_21 : decode cX6_hold 21 = .ok (.dup, 1) := by decide +kernel
theorem dX6_hold_22 : decode cX6_hold 22 = .ok (.getfield 29, 3) := by decide +kernel
theorem dX6_hold_25 : decode cX6_hold 25 = .ok (.iconst 1, 1) := by decide +kernel
theorem dX6_hold_26 : decode cX6_hold 26 = .ok (.iadd, 1) := by decide +kernel
theorem dX6_hold_27 : decode cX6_hold 27 = .ok (.putfield 29, 3) := by decide +kernel
theorem dX6_hold_30 : decode cX6_hold 30 = .ok (.return_, 1) := by decide +kernel
theorem dX6_topHeld_0 : decode cX6_topHeld 0 = .ok (.aload_n 0, 1) := by decide +kernel
theorem dX6_topHeld_1 : decode cX6_topHeld 1 = .ok (.getfield 29, 3) := by decide +kernel
theorem dX6_topHeld_4 : decode cX6_topHeld 4 = .ok (.ifCond .le 17, 3) := by decide +kernel
theorem dX6_topHeld_7 : decode cX6_topHeld 7 = .ok (.aload_n 0, 1) := by decide +kernel
theorem dX6_topHeld_8 : decode cX6_topHeld 8 = .ok (.getfield 25, 3) := by decide +kernel
theorem dX6_topHeld_11 : decode cX6_topHeld 11 = .ok (.aload_n 0, 1) := by decide +kernel
theorem dX6_topHeld_12 : decode cX6_topHeld 12 = .ok (.getfield 29, 3) := by decide +kernel
theorem dX6_topHeld_15 : decode cX6_topHeld 15 = .ok (.iconst 1, 1) := by decide +kernel
theorem dX6_topHeld_16 : decode cX6_topHeld 16 = .ok (.isub, 1) := by decide +kernel
theorem dX6_topHeld_17 : decode cX6_topHeld 17 = .ok (.iaload, 1) := by decide +kernel
theorem dX6_topHeld_18 : decode cX6_topHeld 18 = .ok (.goto 4, 3) := by decide +kernel
theorem dX6_topHeld_21 : decode cX6_topHeld 21 = .ok (.iconst 0, 1) := by decide +kernel
theorem dX6_topHeld_22 : decode cX6_topHeld 22 = .ok (.ireturn, 1) := by decide +kernel
theorem dX6_tightnessOf_0 : decode cX6_tightnessOf 0 = .ok (.iload_n 0, 1) := by decide +kernel
theorem dX6_tightnessOf_1 : decode cX6_tightnessOf 1 = .ok (.lookupswitch 93 #[(38, 85), (42, 91), (43, 89), (45, 89), (47, 91), (60, 87), (61, 87), (62, 87), (124, 83)], 83) := by decide +kernel
theorem dX6_tightnessOf_84 : decode cX6_tightnessOf 84 = .ok (.iconst 1, 1) := by decide +kernel
theorem dX6_tightnessOf_85 : decode cX6_tightnessOf 85 = .ok (.ireturn, 1) := by decide +kernel
theorem dX6_tightnessOf_86 : decode cX6_tightnessOf 86 = .ok (.iconst 2, 1) := by decide +kernel
theorem dX6_tightnessOf_87 : decode cX6_tightnessOf 87 = .ok (.ireturn, 1) := by decide +kernel
theorem dX6_tightnessOf_88 : decode cX6_tightnessOf 88 = .ok (.iconst 3, 1) := by decide +kernel
theorem dX6_tightnessOf_89 : decode cX6_tightnessOf 89 = .ok (.ireturn, 1) := by decide +kernel
theorem dX6_tightnessOf_90 : decode cX6_tightnessOf 90 = .ok (.iconst 4, 1) := by decide +kernel
theorem dX6_tightnessOf_91 : decode cX6_tightnessOf 91 = .ok (.ireturn, 1) := by decide +kernel
theorem dX6_tightnessOf_92 : decode cX6_tightnessOf 92 = .ok (.iconst 5, 1) := by decide +kernel
theorem dX6_tightnessOf_93 : decode cX6_tightnessOf 93 = .ok (.ireturn, 1) := by decide +kernel
theorem dX6_tightnessOf_94 : decode cX6_tightnessOf 94 = .ok (.iconst 0, 1) := by decide +kernel
theorem dX6_tightnessOf_95 : decode cX6_tightnessOf 95 = .ok (.ireturn, 1) := by decide +kernel
theorem dX6_heading_0 : decode cX6_heading 0 = .ok (.iload_n 0, 1) := by decide +kernel
theorem dX6_heading_1 : decode cX6_heading 1 = .ok (.ifCond .ne 6, 3) := by decide +kernel
theorem dX6_heading_4 : decode cX6_heading 4 = .ok (.ldc 151, 2) := by decide +kernel
theorem dX6_heading_6 : decode cX6_heading 6 = .ok (.areturn, 1) := by decide +kernel
theorem dX6_heading_7 : decode cX6_heading 7 = .ok (.iload_n 0, 1) := by decide +kernel
theorem dX6_heading_8 : decode cX6_heading 8 = .ok (.iconst 1, 1) := by decide +kernel
theorem dX6_heading_9 : decode cX6_heading 9 = .ok (.if_icmp .ne 8, 3) := by decide +kernel
theorem dX6_heading_12 : decode cX6_heading 12 = .ok (.ldc 153, 2) := by decide +kernel
theorem dX6_heading_14 : decode cX6_heading 14 = .ok (.goto 5, 3) := by decide +kernel
theorem dX6_heading_17 : decode cX6_heading 17 = .ok (.ldc 155, 2) := by decide +kernel
theorem dX6_heading_19 : decode cX6_heading 19 = .ok (.areturn, 1) := by decide +kernel
theorem dX6_namesOf_0 : decode cX6_namesOf 0 = .ok (.iload_n 0, 1) := by decide +kernel
theorem dX6_namesOf_1 : decode cX6_namesOf 1 = .ok (.ifCond .ne 6, 3) := by decide +kernel
theorem dX6_namesOf_4 : decode cX6_namesOf 4 = .ok (.ldc 157, 2) := by decide +kernel
theorem dX6_namesOf_6 : decode cX6_namesOf 6 = .ok (.areturn, 1) := by decide +kernel
theorem dX6_namesOf_7 : decode cX6_namesOf 7 = .ok (.iload_n 0, 1) := by decide +kernel
theorem dX6_namesOf_8 : decode cX6_namesOf 8 = .ok (.iconst 1, 1) := by decide +kernel
theorem dX6_namesOf_9 : decode cX6_namesOf 9 = .ok (.if_icmp .ne 8, 3) := by decide +kernel
theorem dX6_namesOf_12 : decode cX6_namesOf 12 = .ok (.ldc 159, 2) := by decide +kernel
theorem dX6_namesOf_14 : decode cX6_namesOf 14 = .ok (.goto 5, 3) := by decide +kernel
theorem dX6_namesOf_17 : decode cX6_namesOf 17 = .ok (.ldc 161, 2) := by decide +kernel
theorem dX6_namesOf_19 : decode cX6_namesOf 19 = .ok (.areturn, 1) := by decide +kernel
theorem dX7_init_0 : decode cX7_init 0 = .ok (.aload_n 0, 1) := by decide +kernel
theorem dX7_init_1 : decode cX7_init 1 = .ok (.invokespecial 3, 3) := by decide +kernel
theorem dX7_init_4 : decode cX7_init 4 = .ok (.aload_n 0, 1) := by decide +kernel
theorem dX7_init_5 : decode cX7_init 5 = .ok (.bipush 26, 2) := by decide +kernel
theorem dX7_init_7 : decode cX7_init 7 = .ok (.newarray .int, 2) := by decide +kernel
theorem dX7_init_9 : decode cX7_init 9 = .ok (.putfield 9, 3) := by decide +kernel
theorem dX7_init_12 : decode cX7_init 12 = .ok (.aload_n 0, 1) := by decide +kernel
theorem dX7_init_13 : decode cX7_init 13 = .ok (.bipush 120, 2) := by decide +kernel
theorem dX7_init_15 : decode cX7_init 15 = .ok (.newarray .int, 2) := by decide +kernel
theorem dX7_init_17 : decode cX7_init 17 = .ok (.putfield 15, 3) := by decide +kernel
theorem dX7_init_20 : decode cX7_init 20 = .ok (.return_, 1) := by decide +kernel
theorem dX7_set_0 : decode cX7_set 0 = .ok (.iload_n 1, 1) := by decide +kernel
theorem dX7_set_1 : decode cX7_set 1 = .ok (.invokestatic 18, 3) := by decide +kernel
theorem dX7_set_4 : decode cX7_set 4 = .ok (.ifCond .eq 13, 3) := by decide +kernel
theorem dX7_set_7 : decode cX7_set 7 = .ok (.aload_n 0, 1) := by decide +kernel
theorem dX7_set_8 : decode cX7_set 8 = .ok (.getfield 9, 3) := by decide +kernel
theorem dX7_set_11 : decode cX7_set 11 = .ok (.iload_n 1, 1) := by decide +kernel
theorem dX7_set_12 : decode cX7_set 12 = .ok (.bipush 97, 2) := by decide +kernel
theorem dX7_set_14 : decode cX7_set 14 = .ok (.isub, 1) := by decide +kernel
theorem dX7_set_15 : decode cX7_set 15 = .ok (.iload_n 2, 1) := by decide +kernel
theorem dX7_set_16 : decode cX7_set 16 = .ok (.iastore, 1) := by decide +kernel
theorem dX7_set_17 : decode cX7_set 17 = .ok (.return_, 1) := by decide +kernel
theorem dX7_workOut_0 : decode cX7_workOut 0 = .ok (.iconst (-1), 1) := by decide +kernel
theorem dX7_workOut_1 : decode cX7_workOut 1 = .ok (.istore_n 3, 1) := by decide +kernel
theorem dX7_workOut_2 : decode cX7_workOut 2 = .ok (.iload_n 2, 1) := by decide +kernel
theorem dX7_workOut_3 : decode cX7_workOut 3 = .ok (.ifCond .ne 7, 3) := by decide +kernel
theorem dX7_workOut_6 : decode cX7_workOut 6 = .ok (.iconst 0, 1) := by decide +kernel
theorem dX7_workOut_7 : decode cX7_workOut 7 = .ok (.goto 11, 3) := by decide +kernel
theorem dX7_workOut_10 : decode cX7_workOut 10 = .ok (.aload_n 1, 1) := by decide +kernel
theorem dX7_workOut_11 : decode cX7_workOut 11 = .ok (.getfield 24, 3) := by decide +kernel
theorem dX7_workOut_14 : decode cX7_workOut 14 = .ok (.iload_n 2, 1) := by decide +kernel
theorem dX7_workOut_15 : decode cX7_workOut 15 = .ok (.iconst 1, 1) := by decide +kernel
theorem dX7_workOut_16 : decode cX7_workOut 16 = .ok (.isub, 1) := by decide +kernel
theorem dX7_workOut_17 : decode cX7_workOut 17 = .ok (.iaload, 1) := by decide +kernel
theorem dX7_workOut_18 : decode cX7_workOut 18 = .ok (.istore 4, 2) := by decide +kernel
theorem dX7_workOut_20 : decode cX7_workOut 20 = .ok (.iload 4, 2) := by decide +kernel
theorem dX7_workOut_22 : decode cX7_workOut 22 = .ok (.istore 5, 2) := by decide +kernel
theorem dX7_workOut_24 : decode cX7_workOut 24 = .ok (.iload 5, 2) := by decide +kernel
theorem dX7_workOut_26 : decode cX7_workOut 26 = .ok (.aload_n 1, 1) := by decide +kernel
theorem dX7_workOut_27 : decode cX7_workOut 27 = .ok (.getfield 24, 3) := by decide +kernel
theorem dX7_workOut_30 : decode cX7_workOut 30 = .ok (.iload_n 2, 1) := by decide +kernel
theorem dX7_workOut_31 : decode cX7_workOut 31 = .ok (.iaload, 1) := by decide +kernel
theorem dX7_workOut_32 : decode cX7_workOut 32 = .ok (.if_icmp .ge 144, 3) := by decide +kernel
theorem dX7_workOut_35 : decode cX7_workOut 35 = .ok (.aload_n 1, 1) := by decide +kernel
theorem dX7_workOut_36 : decode cX7_workOut 36 = .ok (.getfield 29, 3) := by decide +kernel
theorem dX7_workOut_39 : decode cX7_workOut 39 = .ok (.iload 5, 2) := by decide +kernel
theorem dX7_workOut_41 : decode cX7_workOut 41 = .ok (.iaload, 1) := by decide +kernel
theorem dX7_workOut_42 : decode cX7_workOut 42 = .ok (.istore 6, 2) := by decide +kernel
theorem dX7_workOut_44 : decode cX7_workOut 44 = .ok (.iload 6, 2) := by decide +kernel
theorem dX7_workOut_46 : decode cX7_workOut 46 = .ok (.ifCond .ge 12, 3) := by decide +kernel
theorem dX7_workOut_49 : decode cX7_workOut 49 = .ok (.iload 6, 2) := by decide +kernel
theorem dX7_workOut_51 : decode cX7_workOut 51 = .ok (.ineg, 1) := by decide +kernel
theorem dX7_workOut_52 : decode cX7_workOut 52 = .ok (.invokestatic 18, 3) := by decide +kernel
theorem dX7_workOut_55 : decode cX7_workOut 55 = .ok (.ifCond .eq 44, 3) := by decide +kernel
theorem dX7_workOut_58 : decode cX7_workOut 58 = .ok (.iload_n 3, 1) := by decide +kernel
theorem dX7_workOut_59 : decode cX7_workOut 59 = .ok (.bipush 119, 2) := by decide +kernel
theorem dX7_workOut_61 : decode cX7_workOut 61 = .ok (.if_icmp .lt 5, 3) := by decide +kernel
theorem dX7_workOut_64 : decode cX7_workOut 64 = .ok (.iconst 0, 1) := by decide +kernel
theorem dX7_workOut_65 : decode cX7_workOut 65 = .ok (.ireturn, 1) := by decide +kernel
theorem dX7_workOut_66 : decode cX7_workOut 66 = .ok (.iinc 3 1, 3) := by decide +kernel
theorem dX7_workOut_69 : decode cX7_workOut 69 = .ok (.aload_n 0, 1) := by decide +kernel
theorem dX7_workOut_70 : decode cX7_workOut 70 = .ok (.getfield 15, 3) := by decide +kernel
theorem dX7_workOut_73 : decode cX7_workOut 73 = .ok (.iload_n 3, 1) := by decide +kernel
theorem dX7_workOut_74 : decode cX7_workOut 74 = .ok (.iload 6, 2) := by decide +kernel
theorem dX7_workOut_76 : decode cX7_workOut 76 = .ok (.ifCond .lt 8, 3) := by decide +kernel
theorem dX7_workOut_79 : decode cX7_workOut 79 = .ok (.iload 6, 2) := by decide +kernel
theorem dX7_workOut_81 : decode cX7_workOut 81 = .ok (.goto 14, 3) := by decide +kernel
theorem dX7_workOut_84 : decode cX7_workOut 84 = .ok (.aload_n 0, 1) := by decide +kernel
theorem dX7_workOut_85 : decode cX7_workOut 85 = .ok (.getfield 9, 3) := by decide +kernel
theorem dX7_workOut_88 : decode cX7_workOut 88 = .ok (.iload 6, 2) := by decide +kernel
theorem dX7_workOut_90 : decode cX7_workOut 90 = .ok (.ineg, 1) := by decide +kernel
theorem dX7_workOut_91 : decode cX7_workOut 91 = .ok (.bipush 97, 2) := by decide +kernel
theorem dX7_workOut_93 : decode cX7_workOut 93 = .ok (.isub, 1) := by decide +kernel
theorem dX7_workOut_94 : decode cX7_workOut 94 = .ok (.iaload, 1) := by decide +kernel
theorem dX7_workOut_95 : decode cX7_workOut 95 = .ok (.iastore, 1) := by decide +kernel
theorem dX7_workOut_96 : decode cX7_workOut 96 = .ok (.goto 74, 3) := by decide +kernel
theorem dX7_workOut_99 : decode cX7_workOut 99 = .ok (.iload 6, 2) := by decide +kernel
theorem dX7_workOut_101 : decode cX7_workOut 101 = .ok (.bipush (-33), 2) := by decide +kernel
theorem dX7_workOut_103 : decode cX7_workOut 103 = .ok (.if_icmp .ne 33, 3) := by decide +kernel
theorem dX7_workOut_106 : decode cX7_workOut 106 = .ok (.iload_n 3, 1) := by decide +kernel
theorem dX7_workOut_107 : decode cX7_workOut 107 = .ok (.ifCond .lt 29, 3) := by decide +kernel
theorem dX7_workOut_110 : decode cX7_workOut 110 = .ok (.aload_n 0, 1) := by decide +kernel
theorem dX7_workOut_111 : decode cX7_workOut 111 = .ok (.getfield 15, 3) := by decide +kernel
theorem dX7_workOut_114 : decode cX7_workOut 114 = .ok (.iload_n 3, 1) := by decide +kernel
theorem dX7_workOut_115 : decode cX7_workOut 115 = .ok (.aload_n 0, 1) := by decide +kernel
theorem dX7_workOut_116 : decode cX7_workOut 116 = .ok (.getfield 15, 3) := by decide +kernel
theorem dX7_workOut_119 : decode cX7_workOut 119 = .ok (.iload_n 3, 1) := by decide +kernel
theorem dX7_workOut_120 : decode cX7_workOut 120 = .ok (.iaload, 1) := by decide +kernel
theorem dX7_workOut_121 : decode cX7_workOut 121 = .ok (.ifCond .ne 7, 3) := by decide +kernel
theorem dX7_workOut_124 : decode cX7_workOut 124 = .ok (.iconst 1, 1) := by decide +kernel
theorem dX7_workOut_125 : decode cX7_workOut 125 = .ok (.goto 4, 3) := by decide +kernel
theorem dX7_workOut_128 : decode cX7_workOut 128 = .ok (.iconst 0, 1) := by decide +kernel
theorem dX7_workOut_129 : decode cX7_workOut 129 = .ok (.invokestatic 32, 3) := by decide +kernel
theorem dX7_workOut_132 : decode cX7_workOut 132 = .ok (.iastore, 1) := by decide +kernel
theorem dX7_workOut_133 : decode cX7_workOut 133 = .ok (.goto 37, 3) := by decide +kernel
theorem dX7_workOut_136 : decode cX7_workOut 136 = .ok (.iload_n 3, 1) := by decide +kernel
theorem dX7_workOut_137 : decode cX7_workOut 137 = .ok (.iconst 1, 1) := by decide +kernel
theorem dX7_workOut_138 : decode cX7_workOut 138 = .ok (.if_icmp .lt 32, 3) := by decide +kernel
theorem dX7_workOut_141 : decode cX7_workOut 141 = .ok (.iinc 3 (-1), 3) := by decide +kernel
theorem dX7_workOut_144 : decode cX7_workOut 144 = .ok (.aload_n 0, 1) := by decide +kernel
theorem dX7_workOut_145 : decode cX7_workOut 145 = .ok (.getfield 15, 3) := by decide +kernel
theorem dX7_workOut_148 : decode cX7_workOut 148 = .ok (.iload_n 3, 1) := by decide +kernel
theorem dX7_workOut_149 : decode cX7_workOut 149 = .ok (.iload 6, 2) := by decide +kernel
theorem dX7_workOut_151 : decode cX7_workOut 151 = .ok (.ineg, 1) := by decide +kernel
theorem dX7_workOut_152 : decode cX7_workOut 152 = .ok (.aload_n 0, 1) := by decide +kernel
theorem dX7_workOut_153 : decode cX7_workOut 153 = .ok (.getfield 15, 3) := by decide +kernel
theorem dX7_workOut_156 : decode cX7_workOut 156 = .ok (.iload_n 3, 1) := by decide +kernel
theorem dX7_workOut_157 : decode cX7_workOut 157 = .ok (.iaload, 1) := by decide +kernel
theorem dX7_workOut_158 : decode cX7_workOut 158 = .ok (.aload_n 0, 1) := by decide +kernel
theorem dX7_workOut_159 : decode cX7_workOut 159 = .ok (.getfield 15, 3) := by decide +kernel
theorem dX7_workOut_162 : decode cX7_workOut 162 = .ok (.iload_n 3, 1) := by decide +kernel
theorem dX7_workOut_163 : decode cX7_workOut 163 = .ok (.iconst 1, 1) := by decide +kernel
theorem dX7_workOut_164 : decode cX7_workOut 164 = .ok (.iadd, 1) := by decide +kernel
theorem dX7_workOut_165 : decode cX7_workOut 165 = .ok (.iaload, 1) := by decide +kernel
theorem dX7_workOut_166 : decode cX7_workOut 166 = .ok (.invokestatic 36, 3) := by decide +kernel
theorem dX7_workOut_169 : decode cX7_workOut 169 = .ok (.iastore, 1) := by decide +kernel
theorem dX7_workOut_170 : decode cX7_workOut 170 = .ok (.iinc 5 1, 3) := by decide +kernel
theorem dX7_workOut_173 : decode cX7_workOut 173 = .ok (.goto (-149), 3) := by decide +kernel
theorem dX7_workOut_176 : decode cX7_workOut 176 = .ok (.iload_n 3, 1) := by decide +kernel
theorem dX7_workOut_177 : decode cX7_workOut 177 = .ok (.ifCond .lt 12, 3) := by decide +kernel
theorem dX7_workOut_180 : decode cX7_workOut 180 = .ok (.aload_n 0, 1) := by decide +kernel
theorem dX7_workOut_181 : decode cX7_workOut 181 = .ok (.getfield 15, 3) := by decide +kernel
theorem dX7_workOut_184 : decode cX7_workOut 184 = .ok (.iload_n 3, 1) := by decide +kernel
theorem dX7_workOut_185 : decode cX7_workOut 185 = .ok (.iaload, 1) := by decide +kernel
theorem dX7_workOut_186 : decode cX7_workOut 186 = .ok (.goto 4, 3) := by decide +kernel
theorem dX7_workOut_189 : decode cX7_workOut 189 = .ok (.iconst 0, 1) := by decide +kernel
theorem dX7_workOut_190 : decode cX7_workOut 190 = .ok (.ireturn, 1) := by decide +kernel
theorem dX7_join_0 : decode cX7_join 0 = .ok (.iload_n 0, 1) := by decide +kernel
theorem dX7_join_1 : decode cX7_join 1 = .ok (.lookupswitch 163 #[(38, 92), (42, 159), (43, 151), (45, 155), (60, 109), (61, 123), (62, 137), (124, 75)], 75) := by decide +kernel
theorem dX7_join_76 : decode cX7_join 76 = .ok (.iload_n 1, 1) := by decide +kernel
theorem dX7_join_77 : decode cX7_join 77 = .ok (.ifCond .ne 7, 3) := by decide +kernel
theorem dX7_join_80 : decode cX7_join 80 = .ok (.iload_n 2, 1) := by decide +kernel
theorem dX7_join_81 : decode cX7_join 81 = .ok (.ifCond .eq 7, 3) := by decide +kernel
theorem dX7_join_84 : decode cX7_join 84 = .ok (.iconst 1, 1) := by decide +kernel
theorem dX7_join_85 : decode cX7_join 85 = .ok (.goto 4, 3) := by decide +kernel
theorem dX7_join_88 : decode cX7_join 88 = .ok (.iconst 0, 1) := by decide +kernel
theorem dX7_join_89 : decode cX7_join 89 = .ok (.invokestatic 32, 3) := by decide +kernel
theorem dX7_join_92 : decode cX7_join 92 = .ok (.ireturn, 1) := by decide +kernel
theorem dX7_join_93 : decode cX7_join 93 = .ok (.iload_n 1, 1) := by decide +kernel
theorem dX7_join_94 : decode cX7_join 94 = .ok (.ifCond .eq 11, 3) := by decide +kernel
theorem dX7_join_97 : decode cX7_join 97 = .ok (.iload_n 2, 1) := by decide +kernel
theorem dX7_join_98 : decode cX7_join 98 = .ok (.ifCond .eq 7, 3) := by decide +kernel
theorem dX7_join_101 : decode cX7_join 101 = .ok (.iconst 1, 1) := by decide +kernel
theorem dX7_join_102 : decode cX7_join 102 = .ok (.goto 4, 3) := by decide +kernel
theorem dX7_join_105 : decode cX7_join 105 = .ok (.iconst 0, 1) := by decide +kernel
theorem dX7_join_106 : decode cX7_join 106 = .ok (.invokestatic 32, 3) := by decide +kernel
theorem dX7_join_109 : decode cX7_join 109 = .ok (.ireturn, 1) := by decide +kernel
theorem dX7_join_110 : decode cX7_join 110 = .ok (.iload_n 1, 1) := by decide +kernel
theorem dX7_join_111 : decode cX7_join 111 = .ok (.iload_n 2, 1) := by decide +kernel
theorem dX7_join_112 : decode cX7_join 112 = .ok (.if_icmp .ge 7, 3) := by decide +kernel
theorem dX7_join_115 : decode cX7_join 115 = .ok (.iconst 1, 1) := by decide +kernel
theorem dX7_join_116 : decode cX7_join 116 = .ok (.goto 4, 3) := by decide +kernel
theorem dX7_join_119 : decode cX7_join 119 = .ok (.iconst 0, 1) := by decide +kernel
theorem dX7_join_120 : decode cX7_join 120 = .ok (.invokestatic 32, 3) := by decide +kernel
theorem dX7_join_123 : decode cX7_join 123 = .ok (.ireturn, 1) := by decide +kernel
theorem dX7_join_124 : decode cX7_join 124 = .ok (.iload_n 1, 1) := by decide +kernel
theorem dX7_join_125 : decode cX7_join 125 = .ok (.iload_n 2, 1) := by decide +kernel
theorem dX7_join_126 : decode cX7_join 126 = .ok (.if_icmp .ne 7, 3) := by decide +kernel
theorem dX7_join_129 : decode cX7_join 129 = .ok (.iconst 1, 1) := by decide +kernel
theorem dX7_join_130 : decode cX7_join 130 = .ok (.goto 4, 3) := by decide +kernel
theorem dX7_join_133 : decode cX7_join 133 = .ok (.iconst 0, 1) := by decide +kernel
theorem dX7_join_134 : decode cX7_join 134 = .ok (.invokestatic 32, 3) := by decide +kernel
theorem dX7_join_137 : decode cX7_join 137 = .ok (.ireturn, 1) := by decide +kernel
theorem dX7_join_138 : decode cX7_join 138 = .ok (.iload_n 1, 1) := by decide +kernel
theorem dX7_join_139 : decode cX7_join 139 = .ok (.iload_n 2, 1) := by decide +kernel
theorem dX7_join_140 : decode cX7_join 140 = .ok (.if_icmp .le 7, 3) := by decide +kernel
theorem dX7_join_143 : decode cX7_join 143 = .ok (.iconst 1, 1) := by decide +kernel
theorem dX7_join_144 : decode cX7_join 144 = .ok (.goto 4, 3) := by decide +kernel
theorem dX7_join_147 : decode cX7_join 147 = .ok (.iconst 0, 1) := by decide +kernel
theorem dX7_join_148 : decode cX7_join 148 = .ok (.invokestatic 32, 3) := by decide +kernel
theorem dX7_join_151 : decode cX7_join 151 = .ok (.ireturn, 1) := by decide +kernel
theorem dX7_join_152 : decode cX7_join 152 = .ok (.iload_n 1, 1) := by decide +kernel
theorem dX7_join_153 : decode cX7_join 153 = .ok (.iload_n 2, 1) := by decide +kernel
theorem dX7_join_154 : decode cX7_join 154 = .ok (.iadd, 1) := by decide +kernel
theorem dX7_join_155 : decode cX7_join 155 = .ok (.ireturn, 1) := by decide +kernel
theorem dX7_join_156 : decode cX7_join 156 = .ok (.iload_n 1, 1) := by decide +kernel
theorem dX7_join_157 : decode cX7_join 157 = .ok (.iload_n 2, 1) := by decide +kernel
theorem dX7_join_158 : decode cX7_join 158 = .ok (.isub, 1) := by decide +kernel
theorem dX7_join_159 : decode cX7_join 159 = .ok (.ireturn, 1) := by decide +kernel
theorem dX7_join_160 : decode cX7_join 160 = .ok (.iload_n 1, 1) := by decide +kernel
theorem dX7_join_161 : decode cX7_join 161 = .ok (.iload_n 2, 1) := by decide +kernel
theorem dX7_join_162 : decode cX7_join 162 = .ok (.imul, 1) := by decide +kernel
theorem dX7_join_163 : decode cX7_join 163 = .ok (.ireturn, 1) := by decide +kernel
theorem dX7_join_164 : decode cX7_join 164 = .ok (.iload_n 2, 1) := by decide +kernel
theorem dX7_join_165 : decode cX7_join 165 = .ok (.ifCond .ne 7, 3) := by decide +kernel
theorem dX7_join_168 : decode cX7_join 168 = .ok (.iconst 0, 1) := by decide +kernel
theorem dX7_join_169 : decode cX7_join 169 = .ok (.goto 6, 3) := by decide +kernel
theorem dX7_join_172 : decode cX7_join 172 = .ok (.iload_n 1, 1) := by decide +kernel
theorem dX7_join_173 : decode cX7_join 173 = .ok (.iload_n 2, 1) := by decide +kernel
theorem dX7_join_174 : decode cX7_join 174 = .ok (.idiv, 1) := by decide +kernel
theorem dX7_join_175 : decode cX7_join 175 = .ok (.ireturn, 1) := by decide +kernel
theorem dX9_init_0 : decode cX9_init 0 = .ok (.aload_n 0, 1) := by decide +kernel
theorem dX9_init_1 : decode cX9_init 1 = .ok (.invokespecial 3, 3) := by decide +kernel
theorem dX9_init_4 : decode cX9_init 4 = .ok (.aload_n 0, 1) := by decide +kernel
theorem dX9_init_5 : decode cX9_init 5 = .ok (.bipush 120, 2) := by decide +kernel
theorem dX9_init_7 : decode cX9_init 7 = .ok (.newarray .int, 2) := by decide +kernel
theorem dX9_init_9 : decode cX9_init 9 = .ok (.putfield 9, 3) := by decide +kernel
theorem dX9_init_12 : decode cX9_init 12 = .ok (.aload_n 0, 1) := by decide +kernel
theorem dX9_init_13 : decode cX9_init 13 = .ok (.iconst 0, 1) := by decide +kernel
theorem dX9_init_14 : decode cX9_init 14 = .ok (.putfield 15, 3) := by decide +kernel
theorem dX9_init_17 : decode cX9_init 17 = .ok (.aload_n 0, 1) := by decide +kernel
theorem dX9_init_18 : decode cX9_init 18 = .ok (.iconst 0, 1) := by decide +kernel
theorem dX9_init_19 : decode cX9_init 19 = .ok (.putfield 19, 3) := by decide +kernel
theorem dX9_init_22 : decode cX9_init 22 = .ok (.aload_n 0, 1) := by decide +kernel
theorem dX9_init_23 : decode cX9_init 23 = .ok (.iconst 0, 1) := by decide +kernel
theorem dX9_init_24 : decode cX9_init 24 = .ok (.putfield 22, 3) := by decide +kernel
theorem dX9_init_27 : decode cX9_init 27 = .ok (.return_, 1) := by decide +kernel
theorem dX9_addFour_0 : decode cX9_addFour 0 = .ok (.aload_n 0, 1) := by decide +kernel
theorem dX9_addFour_1 : decode cX9_addFour 1 = .ok (.getfield 15, 3) := by decide +kernel
theorem dX9_addFour_4 : decode cX9_addFour 4 = .ok (.iconst 4, 1) := by decide +kernel
theorem dX9_addFour_5 : decode cX9_addFour 5 = .ok (.iadd, 1) := by decide +kernel
theorem dX9_addFour_6 : decode cX9_addFour 6 = .ok (.bipush 120, 2) := by decide +kernel
theorem dX9_addFour_8 : decode cX9_addFour 8 = .ok (.if_icmp .le 4, 3) := by decide +kernel
theorem dX9_addFour_11 : decode cX9_addFour 11 = .ok (.return_, 1) := by decide +kernel
theorem dX9_addFour_12 : decode cX9_addFour 12 = .ok (.iconst 0, 1) := by decide +kernel
theorem dX9_addFour_13 : decode cX9_addFour 13 = .ok (.istore_n 2, 1) := by decide +kernel
theorem dX9_addFour_14 : decode cX9_addFour 14 = .ok (.iload_n 2, 1) := by decide +kernel
theorem dX9_addFour_15 : decode cX9_addFour 15 = .ok (.iconst 4, 1) := by decide +kernel
theorem dX9_addFour_16 : decode cX9_addFour 16 = .ok (.if_icmp .ge 33, 3) := by decide +kernel
theorem dX9_addFour_19 : decode cX9_addFour 19 = .ok (.aload_n 0, 1) := by decide +kernel
theorem dX9_addFour_20 : decode cX9_addFour 20 = .ok (.getfield 9, 3) := by decide +kernel
theorem dX9_addFour_23 : decode cX9_addFour 23 = .ok (.aload_n 0, 1) := by decide +kernel
theorem dX9_addFour_24 : decode cX9_addFour 24 = .ok (.getfield 15, 3) := by decide +kernel
theorem dX9_addFour_27 : decode cX9_addFour 27 = .ok (.iload_n 2, 1) := by decide +kernel
theorem dX9_addFour_28 : decode cX9_addFour 28 = .ok (.iadd, 1) := by decide +kernel
theorem dX9_addFour_29 : decode cX9_addFour 29 = .ok (.iload_n 1, 1) := by decide +kernel
theorem dX9_addFour_30 : decode cX9_addFour 30 = .ok (.bipush 24, 2) := by decide +kernel
theorem dX9_addFour_32 : decode cX9_addFour 32 = .ok (.bipush 8, 2) := by decide +kernel
theorem dX9_addFour_34 : decode cX9_addFour 34 = .ok (.iload_n 2, 1) := by decide +kernel
theorem dX9_addFour_35 : decode cX9_addFour 35 = .ok (.imul, 1) := by decide +kernel
theorem dX9_addFour_36 : decode cX9_addFour 36 = .ok (.isub, 1) := by decide +kernel
theorem dX9_addFour_37 : decode cX9_addFour 37 = .ok (.iushr, 1) := by decide +kernel
theorem dX9_addFour_38 : decode cX9_addFour 38 = .ok (.sipush 255, 3) := by decide +kernel
theorem dX9_addFour_41 : decode cX9_addFour 41 = .ok (.iand, 1) := by decide +kernel
theorem dX9_addFour_42 : decode cX9_addFour 42 = .ok (.iastore, 1) := by decide +kernel
theorem dX9_addFour_43 : decode cX9_addFour 43 = .ok (.iinc 2 1, 3) := by decide +kernel
theorem dX9_addFour_46 : decode cX9_addFour 46 = .ok (.goto (-32), 3) := by decide +kernel
theorem dX9_addFour_49 : decode cX9_addFour 49 = .ok (.aload_n 0, 1) := by decide +kernel
theorem dX9_addFour_50 : decode cX9_addFour 50 = .ok (.dup, 1) := by decide +kernel
theorem dX9_addFour_51 : decode cX9_addFour 51 = .ok (.getfield 15, 3) := by decide +kernel
theorem dX9_addFour_54 : decode cX9_addFour 54 = .ok (.iconst 4, 1) := by decide +kernel
theorem dX9_addFour_55 : decode cX9_addFour 55 = .ok (.iadd, 1) := by decide +kernel
theorem dX9_addFour_56 : decode cX9_addFour 56 = .ok (.putfield 15, 3) := by decide +kernel
theorem dX9_addFour_59 : decode cX9_addFour 59 = .ok (.return_, 1) := by decide +kernel
theorem dX9_rewind_0 : decode cX9_rewind 0 = .ok (.aload_n 0, 1) := by decide +kernel
theorem dX9_rewind_1 : decode cX9_rewind 1 = .ok (.iconst 0, 1) := by decide +kernel
theorem dX9_rewind_2 : decode cX9_rewind 2 = .ok (.putfield 19, 3) := by decide +kernel
theorem dX9_rewind_5 : decode cX9_rewind 5 = .ok (.aload_n 0, 1) := by decide +kernel
theorem dX9_rewind_6 : decode cX9_rewind 6 = .ok (.iconst 0, 1) := by decide +kernel
theorem dX9_rewind_7 : decode cX9_rewind 7 = .ok (.putfield 22, 3) := by decide +kernel
theorem dX9_rewind_10 : decode cX9_rewind 10 = .ok (.return_, 1) := by decide +kernel
theorem dX9_goOn_0 : decode cX9_goOn 0 = .ok (.aload_n 0, 1) := by decide +kernel
theorem dX9_goOn_1 : decode cX9_goOn 1 = .ok (.aload_n 0, 1) := by decide +kernel
theorem dX9_goOn_2 : decode cX9_goOn 2 = .ok (.getfield 22, 3) := by decide +kernel
theorem dX9_goOn_5 : decode cX9_goOn 5 = .ok (.putfield 19, 3) := by decide +kernel
theorem dX9_goOn_8 : decode cX9_goOn 8 = .ok (.aload_n 0, 1) := by decide +kernel
theorem dX9_goOn_9 : decode cX9_goOn 9 = .ok (.getfield 19, 3) := by decide +kernel
theorem dX9_goOn_12 : decode cX9_goOn 12 = .ok (.aload_n 0, 1) := by decide +kernel
theorem dX9_goOn_13 : decode cX9_goOn 13 = .ok (.getfield 15, 3) := by decide +kernel
theorem dX9_goOn_16 : decode cX9_goOn 16 = .ok (.if_icmp .ge 30, 3) := by decide +kernel
theorem dX9_goOn_19 : decode cX9_goOn 19 = .ok (.aload_n 0, 1) := by decide +kernel
theorem dX9_goOn_20 : decode cX9_goOn 20 = .ok (.getfield 9, 3) := by decide +kernel
theorem dX9_goOn_23 : decode cX9_goOn 23 = .ok (.aload_n 0, 1) := by decide +kernel
theorem dX9_goOn_24 : decode cX9_goOn 24 = .ok (.getfield 19, 3) := by decide +kernel
theorem dX9_goOn_27 : decode cX9_goOn 27 = .ok (.iaload, 1) := by decide +kernel
theorem dX9_goOn_28 : decode cX9_goOn 28 = .ok (.bipush 32, 2) := by decide +kernel
theorem dX9_goOn_30 : decode cX9_goOn 30 = .ok (.if_icmp .ne 16, 3) := by decide +kernel
theorem dX9_goOn_33 : decode cX9_goOn 33 = .ok (.aload_n 0, 1) := by decide +kernel
theorem dX9_goOn_34 : decode cX9_goOn 34 = .ok (.dup, 1) := by decide +kernel
theorem dX9_goOn_35 : decode cX9_goOn 35 = .ok (.getfield 19, 3) := by decide +kernel
theorem dX9_goOn_38 : decode cX9_goOn 38 = .ok (.iconst 1, 1) := by decide +kernel
theorem dX9_goOn_39 : decode cX9_goOn 39 = .ok (.iadd, 1) := by decide +kernel
theorem dX9_goOn_40 : decode cX9_goOn 40 = .ok (.putfield 19, 3) := by decide +kernel
theorem dX9_goOn_43 : decode cX9_goOn 43 = .ok (.goto (-35), 3) := by decide +kernel
theorem dX9_goOn_46 : decode cX9_goOn 46 = .ok (.aload_n 0, 1) := by decide +kernel
theorem dX9_goOn_47 : decode cX9_goOn 47 = .ok (.aload_n 0, 1) := by decide +kernel
theorem dX9_goOn_48 : decode cX9_goOn 48 = .ok (.getfield 19, 3) := by decide +kernel
theorem dX9_goOn_51 : decode cX9_goOn 51 = .ok (.putfield 22, 3) := by decide +kernel
theorem dX9_goOn_54 : decode cX9_goOn 54 = .ok (.aload_n 0, 1) := by decide +kernel
theorem dX9_goOn_55 : decode cX9_goOn 55 = .ok (.invokevirtual 25, 3) := by decide +kernel
theorem dX9_goOn_58 : decode cX9_goOn 58 = .ok (.ifCond .eq 4, 3) := by decide +kernel
theorem dX9_goOn_61 : decode cX9_goOn 61 = .ok (.return_, 1) := by decide +kernel
theorem dX9_goOn_62 : decode cX9_goOn 62 = .ok (.aload_n 0, 1) := by decide +kernel
theorem dX9_goOn_63 : decode cX9_goOn 63 = .ok (.dup, 1) := by decide +kernel
theorem dX9_goOn_64 : decode cX9_goOn 64 = .ok (.getfield 22, 3) := by decide +kernel
theorem dX9_goOn_67 : decode cX9_goOn 67 = .ok (.iconst 1, 1) := by decide +kernel
theorem dX9_goOn_68 : decode cX9_goOn 68 = .ok (.iadd, 1) := by decide +kernel
theorem dX9_goOn_69 : decode cX9_goOn 69 = .ok (.putfield 22, 3) := by decide +kernel
theorem dX9_goOn_72 : decode cX9_goOn 72 = .ok (.aload_n 0, 1) := by decide +kernel
theorem dX9_goOn_73 : decode cX9_goOn 73 = .ok (.getfield 22, 3) := by decide +kernel
theorem dX9_goOn_76 : decode cX9_goOn 76 = .ok (.aload_n 0, 1) := by decide +kernel
theorem dX9_goOn_77 : decode cX9_goOn 77 = .ok (.getfield 15, 3) := by decide +kernel
theorem dX9_goOn_80 : decode cX9_goOn 80 = .ok (.if_icmp .ge 40, 3) := by decide +kernel
theorem dX9_goOn_83 : decode cX9_goOn 83 = .ok (.aload_n 0, 1) := by decide +kernel
theorem dX9_goOn_84 : decode cX9_goOn 84 = .ok (.getfield 9, 3) := by decide +kernel
theorem dX9_goOn_87 : decode cX9_goOn 87 = .ok (.aload_n 0, 1) := by decide +kernel
theorem dX9_goOn_88 : decode cX9_goOn 88 = .ok (.getfield 19, 3) := by decide +kernel
theorem dX9_goOn_91 : decode cX9_goOn 91 = .ok (.iaload, 1) := by decide +kernel
theorem dX9_goOn_92 : decode cX9_goOn 92 = .ok (.aload_n 0, 1) := by decide +kernel
theorem dX9_goOn_93 : decode cX9_goOn 93 = .ok (.getfield 9, 3) := by decide +kernel
theorem dX9_goOn_96 : decode cX9_goOn 96 = .ok (.aload_n 0, 1) := by decide +kernel
theorem dX9_goOn_97 : decode cX9_goOn 97 = .ok (.getfield 22, 3) := by decide +kernel
theorem dX9_goOn_100 : decode cX9_goOn 100 = .ok (.iaload, 1) := by decide +kernel
theorem dX9_goOn_101 : decode cX9_goOn 101 = .ok (.invokestatic 29, 3) := by decide +kernel
theorem dX9_goOn_104 : decode cX9_goOn 104 = .ok (.ifCond .eq 16, 3) := by decide +kernel
theorem dX9_goOn_107 : decode cX9_goOn 107 = .ok (.aload_n 0, 1) := by decide +kernel
theorem dX9_goOn_108 : decode cX9_goOn 108 = .ok (.dup, 1) := by decide +kernel
theorem dX9_goOn_109 : decode cX9_goOn 109 = .ok (.getfield 22, 3) := by decide +kernel
theorem dX9_goOn_112 : decode cX9_goOn 112 = .ok (.iconst 1, 1) := by decide +kernel
theorem dX9_goOn_113 : decode cX9_goOn 113 = .ok (.iadd, 1) := by decide +kernel
theorem dX9_goOn_114 : decode cX9_goOn 114 = .ok (.putfield 22, 3) := by decide +kernel
theorem dX9_goOn_117 : decode cX9_goOn 117 = .ok (.goto (-45), 3) := by decide +kernel
theorem dX9_goOn_120 : decode cX9_goOn 120 = .ok (.return_, 1) := by decide +kernel
theorem dX9_isAtEnd_0 : decode cX9_isAtEnd 0 = .ok (.aload_n 0, 1) := by decide +kernel
theorem dX9_isAtEnd_1 : decode cX9_isAtEnd 1 = .ok (.getfield 19, 3) := by decide +kernel
theorem dX9_isAtEnd_4 : decode cX9_isAtEnd 4 = .ok (.aload_n 0, 1) := by decide +kernel
theorem dX9_isAtEnd_5 : decode cX9_isAtEnd 5 = .ok (.getfield 15, 3) := by decide +kernel
theorem dX9_isAtEnd_8 : decode cX9_isAtEnd 8 = .ok (.if_icmp .lt 7, 3) := by decide +kernel
theorem dX9_isAtEnd_11 : decode cX9_isAtEnd 11 = .ok (.iconst 1, 1) := by decide +kernel
theorem dX9_isAtEnd_12 : decode cX9_isAtEnd 12 = .ok (.goto 4, 3) := by decide +kernel
theorem dX9_isAtEnd_15 : decode cX9_isAtEnd 15 = .ok (.iconst 0, 1) := by decide +kernel
theorem dX9_isAtEnd_16 : decode cX9_isAtEnd 16 = .ok (.ireturn, 1) := by decide +kernel
theorem dX9_first_0 : decode cX9_first 0 = .ok (.aload_n 0, 1) := by decide +kernel
theorem dX9_first_1 : decode cX9_first 1 = .ok (.invokevirtual 25, 3) := by decide +kernel
theorem dX9_first_4 : decode cX9_first 4 = .ok (.ifCond .eq 8, 3) := by decide +kernel
theorem dX9_first_7 : decode cX9_first 7 = .ok (.bipush 32, 2) := by decide +kernel
theorem dX9_first_9 : decode cX9_first 9 = .ok (.goto 12, 3) := by decide +kernel
theorem dX9_first_12 : decode cX9_first 12 = .ok (.aload_n 0, 1) := by decide +kernel
theorem dX9_first_13 : decode cX9_first 13 = .ok (.getfield 9, 3) := by decide +kernel
theorem dX9_first_16 : decode cX9_first 16 = .ok (.aload_n 0, 1) := by decide +kernel
theorem dX9_first_17 : decode cX9_first 17 = .ok (.getfield 19, 3) := by decide +kernel
theorem dX9_first_20 : decode cX9_first 20 = .ok (.iaload, 1) := by decide +kernel
theorem dX9_first_21 : decode cX9_first 21 = .ok (.ireturn, 1) := by decide +kernel
theorem dX9_isWord_0 : decode cX9_isWord 0 = .ok (.aload_n 0, 1) := by decide +kernel
theorem dX9_isWord_1 : decode cX9_isWord 1 = .ok (.invokevirtual 33, 3) := by decide +kernel
theorem dX9_isWord_4 : decode cX9_isWord 4 = .ok (.invokestatic 37, 3) := by decide +kernel
theorem dX9_isWord_7 : decode cX9_isWord 7 = .ok (.ifCond .ne 13, 3) := by decide +kernel
theorem dX9_isWord_10 : decode cX9_isWord 10 = .ok (.aload_n 0, 1) := by decide +kernel
theorem dX9_isWord_11 : decode cX9_isWord 11 = .ok (.invokevirtual 33, 3) := by decide +kernel
theorem dX9_isWord_14 : decode cX9_isWord 14 = .ok (.invokestatic 41, 3) := by decide +kernel
theorem dX9_isWord_17 : decode cX9_isWord 17 = .ok (.ifCond .eq 7, 3) := by decide +kernel
theorem dX9_isWord_20 : decode cX9_isWord 20 = .ok (.iconst 1, 1) := by decide +kernel
theorem dX9_isWord_21 : decode cX9_isWord 21 = .ok (.goto 4, 3) := by decide +kernel
theorem dX9_isWord_24 : decode cX9_isWord 24 = .ok (.iconst 0, 1) := by decide +kernel
theorem dX9_isWord_25 : decode cX9_isWord 25 = .ok (.ireturn, 1) := by decide +kernel
theorem dX9_isGlued_0 : decode cX9_isGlued 0 = .ok (.aload_n 0, 1) := by decide +kernel
theorem dX9_isGlued_1 : decode cX9_isGlued 1 = .ok (.getfield 19, 3) := by decide +kernel
theorem dX9_isGlued_4 : decode cX9_isGlued 4 = .ok (.ifCond .eq 10, 3) := by decide +kernel
theorem dX9_isGlued_7 : decode cX9_isGlued 7 = .ok (.aload_n 0, 1) := by decide +kernel
theorem dX9_isGlued_8 : decode cX9_isGlued 8 = .ok (.invokevirtual 44, 3) := by decide +kernel
theorem dX9_isGlued_11 : decode cX9_isGlued 11 = .ok (.ifCond .ne 5, 3) := by decide +kernel
theorem dX9_isGlued_14 : decode cX9_isGlued 14 = .ok (.iconst 0, 1) := by decide +kernel
theorem dX9_isGlued_15 : decode cX9_isGlued 15 = .ok (.ireturn, 1) := by decide +kernel
theorem dX9_isGlued_16 : decode cX9_isGlued 16 = .ok (.aload_n 0, 1) := by decide +kernel
theorem dX9_isGlued_17 : decode cX9_isGlued 17 = .ok (.getfield 9, 3) := by decide +kernel
theorem dX9_isGlued_20 : decode cX9_isGlued 20 = .ok (.aload_n 0, 1) := by decide +kernel
theorem dX9_isGlued_21 : decode cX9_isGlued 21 = .ok (.getfield 19, 3) := by decide +kernel
theorem dX9_isGlued_24 : decode cX9_isGlued 24 = .ok (.iconst 1, 1) := by decide +kernel
theorem dX9_isGlued_25 : decode cX9_isGlued 25 = .ok (.isub, 1) := by decide +kernel
theorem dX9_isGlued_26 : decode cX9_isGlued 26 = .ok (.iaload, 1) := by decide +kernel
theorem dX9_isGlued_27 : decode cX9_isGlued 27 = .ok (.istore_n 1, 1) := by decide +kernel
theorem dX9_isGlued_28 : decode cX9_isGlued 28 = .ok (.iload_n 1, 1) := by decide +kernel
theorem dX9_isGlued_29 : decode cX9_isGlued 29 = .ok (.invokestatic 37, 3) := by decide +kernel
theorem dX9_isGlued_32 : decode cX9_isGlued 32 = .ok (.ifCond .ne 10, 3) := by decide +kernel
theorem dX9_isGlued_35 : decode cX9_isGlued 35 = .ok (.iload_n 1, 1) := by decide +kernel
theorem dX9_isGlued_36 : decode cX9_isGlued 36 = .ok (.invokestatic 41, 3) := by decide +kernel
theorem dX9_isGlued_39 : decode cX9_isGlued 39 = .ok (.ifCond .eq 7, 3) := by decide +kernel
theorem dX9_isGlued_42 : decode cX9_isGlued 42 = .ok (.iconst 1, 1) := by decide +kernel
theorem dX9_isGlued_43 : decode cX9_isGlued 43 = .ok (.goto 4, 3) := by decide +kernel
theorem dX9_isGlued_46 : decode cX9_isGlued 46 = .ok (.iconst 0, 1) := by decide +kernel
theorem dX9_isGlued_47 : decode cX9_isGlued 47 = .ok (.ireturn, 1) := by decide +kernel
theorem dX9_says_0 : decode cX9_says 0 = .ok (.aload_n 0, 1) := by decide +kernel
theorem dX9_says_1 : decode cX9_says 1 = .ok (.getfield 22, 3) := by decide +kernel
theorem dX9_says_4 : decode cX9_says 4 = .ok (.aload_n 0, 1) := by decide +kernel
theorem dX9_says_5 : decode cX9_says 5 = .ok (.getfield 19, 3) := by decide +kernel
theorem dX9_says_8 : decode cX9_says 8 = .ok (.isub, 1) := by decide +kernel
theorem dX9_says_9 : decode cX9_says 9 = .ok (.aload_n 1, 1) := by decide +kernel
theorem dX9_says_10 : decode cX9_says 10 = .ok (.invokevirtual 47, 3) := by decide +kernel
theorem dX9_says_13 : decode cX9_says 13 = .ok (.if_icmp .eq 5, 3) := by decide +kernel
theorem dX9_says_16 : decode cX9_says 16 = .ok (.iconst 0, 1) := by decide +kernel
theorem dX9_says_17 : decode cX9_says 17 = .ok (.ireturn, 1) := by decide +kernel
theorem dX9_says_18 : decode cX9_says 18 = .ok (.iconst 0, 1) := by decide +kernel
theorem dX9_says_19 : decode cX9_says 19 = .ok (.istore_n 2, 1) := by decide +kernel
theorem dX9_says_20 : decode cX9_says 20 = .ok (.iload_n 2, 1) := by decide +kernel
theorem dX9_says_21 : decode cX9_says 21 = .ok (.aload_n 1, 1) := by decide +kernel
theorem dX9_says_22 : decode cX9_says 22 = .ok (.invokevirtual 47, 3) := by decide +kernel
theorem dX9_says_25 : decode cX9_says 25 = .ok (.if_icmp .ge 30, 3) := by decide +kernel
theorem dX9_says_28 : decode cX9_says 28 = .ok (.aload_n 0, 1) := by decide +kernel
theorem dX9_says_29 : decode cX9_says 29 = .ok (.getfield 9, 3) := by decide +kernel
theorem dX9_says_32 : decode cX9_says 32 = .ok (.aload_n 0, 1) := by decide +kernel
theorem dX9_says_33 : decode cX9_says 33 = .ok (.getfield 19, 3) := by decide +kernel
theorem dX9_says_36 : decode cX9_says 36 = .ok (.iload_n 2, 1) := by decide +kernel
theorem dX9_says_37 : decode cX9_says 37 = .ok (.iadd, 1) := by decide +kernel
theorem dX9_says_38 : decode cX9_says 38 = .ok (.iaload, 1) := by decide +kernel
theorem dX9_says_39 : decode cX9_says 39 = .ok (.aload_n 1, 1) := by decide +kernel
theorem dX9_says_40 : decode cX9_says 40 = .ok (.iload_n 2, 1) := by decide +kernel
theorem dX9_says_41 : decode cX9_says 41 = .ok (.invokevirtual 51, 3) := by decide +kernel
theorem dX9_says_44 : decode cX9_says 44 = .ok (.if_icmp .eq 5, 3) := by decide +kernel
theorem dX9_says_47 : decode cX9_says 47 = .ok (.iconst 0, 1) := by decide +kernel
theorem dX9_says_48 : decode cX9_says 48 = .ok (.ireturn, 1) := by decide +kernel
theorem dX9_says_49 : decode cX9_says 49 = .ok (.iinc 2 1, 3) := by decide +kernel
theorem dX9_says_52 : decode cX9_says 52 = .ok (.goto (-32), 3) := by decide +kernel
theorem dX9_says_55 : decode cX9_says 55 = .ok (.iconst 1, 1) := by decide +kernel
theorem dX9_says_56 : decode cX9_says 56 = .ok (.ireturn, 1) := by decide +kernel
theorem dX9_number_0 : decode cX9_number 0 = .ok (.iconst 0, 1) := by decide +kernel
theorem dX9_number_1 : decode cX9_number 1 = .ok (.istore_n 1, 1) := by decide +kernel
theorem dX9_number_2 : decode cX9_number 2 = .ok (.aload_n 0, 1) := by decide +kernel
theorem dX9_number_3 : decode cX9_number 3 = .ok (.getfield 19, 3) := by decide +kernel
theorem dX9_number_6 : decode cX9_number 6 = .ok (.istore_n 2, 1) := by decide +kernel
theorem dX9_number_7 : decode cX9_number 7 = .ok (.iload_n 2, 1) := by decide +kernel
theorem dX9_number_8 : decode cX9_number 8 = .ok (.aload_n 0, 1) := by decide +kernel
theorem dX9_number_9 : decode cX9_number 9 = .ok (.getfield 22, 3) := by decide +kernel
theorem dX9_number_12 : decode cX9_number 12 = .ok (.if_icmp .ge 24, 3) := by decide +kernel
theorem dX9_number_15 : decode cX9_number 15 = .ok (.bipush 10, 2) := by decide +kernel
theorem dX9_number_17 : decode cX9_number 17 = .ok (.iload_n 1, 1) := by decide +kernel
theorem dX9_number_18 : decode cX9_number 18 = .ok (.imul, 1) := by decide +kernel
theorem dX9_number_19 : decode cX9_number 19 = .ok (.aload_n 0, 1) := by decide +kernel
theorem dX9_number_20 : decode cX9_number 20 = .ok (.getfield 9, 3) := by decide +kernel
theorem dX9_number_23 : decode cX9_number 23 = .ok (.iload_n 2, 1) := by decide +kernel
theorem dX9_number_24 : decode cX9_number 24 = .ok (.iaload, 1) := by decide +kernel
theorem dX9_number_25 : decode cX9_number 25 = .ok (.iadd, 1) := by decide +kernel
theorem dX9_number_26 : decode cX9_number 26 = .ok (.bipush 48, 2) := by decide +kernel
theorem dX9_number_28 : decode cX9_number 28 = .ok (.isub, 1) := by decide +kernel
theorem dX9_number_29 : decode cX9_number 29 = .ok (.istore_n 1, 1) := by decide +kernel
theorem dX9_number_30 : decode cX9_number 30 = .ok (.iinc 2 1, 3) := by decide +kernel
theorem dX9_number_33 : decode cX9_number 33 = .ok (.goto (-26), 3) := by decide +kernel
theorem dX9_number_36 : decode cX9_number 36 = .ok (.iload_n 1, 1) := by decide +kernel
theorem dX9_number_37 : decode cX9_number 37 = .ok (.ireturn, 1) := by decide +kernel
theorem dX9_isOneWord_0 : decode cX9_isOneWord 0 = .ok (.iload_n 0, 1) := by decide +kernel
theorem dX9_isOneWord_1 : decode cX9_isOneWord 1 = .ok (.invokestatic 37, 3) := by decide +kernel
theorem dX9_isOneWord_4 : decode cX9_isOneWord 4 = .ok (.ifCond .eq 10, 3) := by decide +kernel
theorem dX9_isOneWord_7 : decode cX9_isOneWord 7 = .ok (.iload_n 1, 1) := by decide +kernel
theorem dX9_isOneWord_8 : decode cX9_isOneWord 8 = .ok (.invokestatic 37, 3) := by decide +kernel
theorem dX9_isOneWord_11 : decode cX9_isOneWord 11 = .ok (.ifCond .ne 17, 3) := by decide +kernel
theorem dX9_isOneWord_14 : decode cX9_isOneWord 14 = .ok (.iload_n 0, 1) := by decide +kernel
theorem dX9_isOneWord_15 : decode cX9_isOneWord 15 = .ok (.invokestatic 41, 3) := by decide +kernel
theorem dX9_isOneWord_18 : decode cX9_isOneWord 18 = .ok (.ifCond .eq 14, 3) := by decide +kernel
theorem dX9_isOneWord_21 : decode cX9_isOneWord 21 = .ok (.iload_n 1, 1) := by decide +kernel
theorem dX9_isOneWord_22 : decode cX9_isOneWord 22 = .ok (.invokestatic 41, 3) := by decide +kernel
theorem dX9_isOneWord_25 : decode cX9_isOneWord 25 = .ok (.ifCond .eq 7, 3) := by decide +kernel
theorem dX9_isOneWord_28 : decode cX9_isOneWord 28 = .ok (.iconst 1, 1) := by decide +kernel
theorem dX9_isOneWord_29 : decode cX9_isOneWord 29 = .ok (.goto 4, 3) := by decide +kernel
theorem dX9_isOneWord_32 : decode cX9_isOneWord 32 = .ok (.iconst 0, 1) := by decide +kernel
theorem dX9_isOneWord_33 : decode cX9_isOneWord 33 = .ok (.ireturn, 1) := by decide +kernel
theorem dX9_isLetter_0 : decode cX9_isLetter 0 = .ok (.iload_n 0, 1) := by decide +kernel
theorem dX9_isLetter_1 : decode cX9_isLetter 1 = .ok (.bipush 97, 2) := by decide +kernel
theorem dX9_isLetter_3 : decode cX9_isLetter 3 = .ok (.if_icmp .lt 13, 3) := by decide +kernel
theorem dX9_isLetter_6 : decode cX9_isLetter 6 = .ok (.iload_n 0, 1) := by decide +kernel
theorem dX9_isLetter_7 : decode cX9_isLetter 7 = .ok (.bipush 122, 2) := by decide +kernel
theorem dX9_isLetter_9 : decode cX9_isLetter 9 = .ok (.if_icmp .gt 7, 3) := by decide +kernel
theorem dX9_isLetter_12 : decode cX9_isLetter 12 = .ok (.iconst 1, 1) := by decide +kernel
theorem dX9_isLetter_13 : decode cX9_isLetter 13 = .ok (.goto 4, 3) := by decide +kernel
theorem dX9_isLetter_16 : decode cX9_isLetter 16 = .ok (.iconst 0, 1) := by decide +kernel
theorem dX9_isLetter_17 : decode cX9_isLetter 17 = .ok (.ireturn, 1) := by decide +kernel
theorem dX9_isDigit_0 : decode cX9_isDigit 0 = .ok (.iload_n 0, 1) := by decide +kernel
theorem dX9_isDigit_1 : decode cX9_isDigit 1 = .ok (.bipush 48, 2) := by decide +kernel
theorem dX9_isDigit_3 : decode cX9_isDigit 3 = .ok (.if_icmp .lt 13, 3) := by decide +kernel
theorem dX9_isDigit_6 : decode cX9_isDigit 6 = .ok (.iload_n 0, 1) := by decide +kernel
theorem dX9_isDigit_7 : decode cX9_isDigit 7 = .ok (.bipush 57, 2) := by decide +kernel
theorem dX9_isDigit_9 : decode cX9_isDigit 9 = .ok (.if_icmp .gt 7, 3) := by decide +kernel
theorem dX9_isDigit_12 : decode cX9_isDigit 12 = .ok (.iconst 1, 1) := by decide +kernel
theorem dX9_isDigit_13 : decode cX9_isDigit 13 = .ok (.goto 4, 3) := by decide +kernel
theorem dX9_isDigit_16 : decode cX9_isDigit 16 = .ok (.iconst 0, 1) := by decide +kernel
theorem dX9_isDigit_17 : decode cX9_isDigit 17 = .ok (.ireturn, 1) := by decide +kernel
theorem dX8_init_0 : decode cX8_init 0 = .ok (.aload_n 0, 1) := by decide +kernel
theorem dX8_init_1 : decode cX8_init 1 = .ok (.invokespecial 3, 3) := by decide +kernel
theorem dX8_init_4 : decode cX8_init 4 = .ok (.aload_n 0, 1) := by decide +kernel
theorem dX8_init_5 : decode cX8_init 5 = .ok (.iconst 0, 1) := by decide +kernel
theorem dX8_init_6 : decode cX8_init 6 = .ok (.putfield 9, 3) := by decide +kernel
theorem dX8_init_9 : decode cX8_init 9 = .ok (.aload_n 0, 1) := by decide +kernel
theorem dX8_init_10 : decode cX8_init 10 = .ok (.iconst 0, 1) := by decide +kernel
theorem dX8_init_11 : decode cX8_init 11 = .ok (.putfield 15, 3) := by decide +kernel
theorem dX8_init_14 : decode cX8_init 14 = .ok (.aload_n 0, 1) := by decide +kernel
theorem dX8_init_15 : decode cX8_init 15 = .ok (.iconst 0, 1) := by decide +kernel
theorem dX8_init_16 : decode cX8_init 16 = .ok (.putfield 18, 3) := by decide +kernel
theorem dX8_init_19 : decode cX8_init 19 = .ok (.aload_n 0, 1) := by decide +kernel
theorem dX8_init_20 : decode cX8_init 20 = .ok (.iconst 0, 1) := by decide +kernel
theorem dX8_init_21 : decode cX8_init 21 = .ok (.putfield 21, 3) := by decide +kernel
theorem dX8_init_24 : decode cX8_init 24 = .ok (.aload_n 0, 1) := by decide +kernel
theorem dX8_init_25 : decode cX8_init 25 = .ok (.iconst 0, 1) := by decide +kernel
theorem dX8_init_26 : decode cX8_init 26 = .ok (.putfield 24, 3) := by decide +kernel
theorem dX8_init_29 : decode cX8_init 29 = .ok (.aload_n 0, 1) := by decide +kernel
theorem dX8_init_30 : decode cX8_init 30 = .ok (.bipush 12, 2) := by decide +kernel
theorem dX8_init_32 : decode cX8_init 32 = .ok (.anewarray 27, 3) := by decide +kernel
theorem dX8_init_35 : decode cX8_init 35 = .ok (.putfield 29, 3) := by decide +kernel
theorem dX8_init_38 : decode cX8_init 38 = .ok (.aload_n 0, 1) := by decide +kernel
theorem dX8_init_39 : decode cX8_init 39 = .ok (.bipush 96, 2) := by decide +kernel
theorem dX8_init_41 : decode cX8_init 41 = .ok (.anewarray 33, 3) := by decide +kernel
theorem dX8_init_44 : decode cX8_init 44 = .ok (.putfield 35, 3) := by decide +kernel
theorem dX8_init_47 : decode cX8_init 47 = .ok (.aload_n 0, 1) := by decide +kernel
theorem dX8_init_48 : decode cX8_init 48 = .ok (.bipush 30, 2) := by decide +kernel
theorem dX8_init_50 : decode cX8_init 50 = .ok (.anewarray 39, 3) := by decide +kernel
theorem dX8_init_53 : decode cX8_init 53 = .ok (.putfield 41, 3) := by decide +kernel
theorem dX8_init_56 : decode cX8_init 56 = .ok (.aload_n 0, 1) := by decide +kernel
theorem dX8_init_57 : decode cX8_init 57 = .ok (.bipush 16, 2) := by decide +kernel
theorem dX8_init_59 : decode cX8_init 59 = .ok (.anewarray 45, 3) := by decide +kernel
theorem dX8_init_62 : decode cX8_init 62 = .ok (.putfield 47, 3) := by decide +kernel
theorem dX8_init_65 : decode cX8_init 65 = .ok (.aload_n 0, 1) := by decide +kernel
theorem dX8_init_66 : decode cX8_init 66 = .ok (.getstatic 51, 3) := by decide +kernel
theorem dX8_init_69 : decode cX8_init 69 = .ok (.invokevirtual 55, 3) := by decide +kernel
theorem dX8_init_72 : decode cX8_init 72 = .ok (.checkcast 56, 3) := by decide +kernel
theorem dX8_init_75 : decode cX8_init 75 = .ok (.putfield 60, 3) := by decide +kernel
theorem dX8_init_78 : decode cX8_init 78 = .ok (.aload_n 0, 1) := by decide +kernel
theorem dX8_init_79 : decode cX8_init 79 = .ok (.iconst 4, 1) := by decide +kernel
theorem dX8_init_80 : decode cX8_init 80 = .ok (.newarray .int, 2) := by decide +kernel
theorem dX8_init_82 : decode cX8_init 82 = .ok (.putfield 63, 3) := by decide +kernel
theorem dX8_init_85 : decode cX8_init 85 = .ok (.aload_n 0, 1) := by decide +kernel
theorem dX8_init_86 : decode cX8_init 86 = .ok (.new 66, 3) := by decide +kernel
theorem dX8_init_89 : decode cX8_init 89 = .ok (.dup, 1) := by decide +kernel
theorem dX8_init_90 : decode cX8_init 90 = .ok (.invokespecial 68, 3) := by decide +kernel
theorem dX8_init_93 : decode cX8_init 93 = .ok (.putfield 69, 3) := by decide +kernel
theorem dX8_init_96 : decode cX8_init 96 = .ok (.aload_n 0, 1) := by decide +kernel
theorem dX8_init_97 : decode cX8_init 97 = .ok (.new 73, 3) := by decide +kernel
theorem dX8_init_100 : decode cX8_init 100 = .ok (.dup, 1) := by decide +kernel
theorem dX8_init_101 : decode cX8_init 101 = .ok (.invokespecial 75, 3) := by decide +kernel
theorem dX8_init_104 : decode cX8_init 104 = .ok (.putfield 76, 3) := by decide +kernel
theorem dX8_init_107 : decode cX8_init 107 = .ok (.iconst 0, 1) := by decide +kernel
theorem dX8_init_108 : decode cX8_init 108 = .ok (.istore_n 1, 1) := by decide +kernel
theorem dX8_init_109 : decode cX8_init 109 = .ok (.iload_n 1, 1) := by decide +kernel
theorem dX8_init_110 : decode cX8_init 110 = .ok (.bipush 12, 2) := by decide +kernel
theorem dX8_init_112 : decode cX8_init 112 = .ok (.if_icmp .ge 22, 3) := by decide +kernel
theorem dX8_init_115 : decode cX8_init 115 = .ok (.aload_n 0, 1) := by decide +kernel
theorem dX8_init_116 : decode cX8_init 116 = .ok (.getfield 29, 3) := by decide +kernel
theorem dX8_init_119 : decode cX8_init 119 = .ok (.iload_n 1, 1) := by decide +kernel
theorem dX8_init_120 : decode cX8_init 120 = .ok (.new 27, 3) := by decide +kernel
theorem dX8_init_123 : decode cX8_init 123 = .ok (.dup, 1) := by decide +kernel
theorem dX8_init_124 : decode cX8_init 124 = .ok (.invokespecial 80, 3) := by decide +kernel
theorem dX8_init_127 : decode cX8_init 127 = .ok (.aastore, 1) := by decide +kernel
theorem dX8_init_128 : decode cX8_init 128 = .ok (.iinc 1 1, 3) := by decide +kernel
theorem dX8_init_131 : decode cX8_init 131 = .ok (.goto (-22), 3) := by decide +kernel
theorem dX8_init_134 : decode cX8_init 134 = .ok (.iconst 0, 1) := by decide +kernel
theorem dX8_init_135 : decode cX8_init 135 = .ok (.istore_n 1, 1) := by decide +kernel
theorem dX8_init_136 : decode cX8_init 136 = .ok (.iload_n 1, 1) := by decide +kernel
theorem dX8_init_137 : decode cX8_init 137 = .ok (.bipush 96, 2) := by decide +kernel
theorem dX8_init_139 : decode cX8_init 139 = .ok (.if_icmp .ge 22, 3) := by decide +kernel
theorem dX8_init_142 : decode cX8_init 142 = .ok (.aload_n 0, 1) := by decide +kernel
theorem dX8_init_143 : decode cX8_init 143 = .ok (.getfield 35, 3) := by decide +kernel
theorem dX8_init_146 : decode cX8_init 146 = .ok (.iload_n 1, 1) := by decide +kernel
theorem dX8_init_147 : decode cX8_init 147 = .ok (.new 33, 3) := by decide +kernel
theorem dX8_init_150 : decode cX8_init 150 = .ok (.dup, 1) := by decide +kernel
theorem dX8_init_151 : decode cX8_init 151 = .ok (.invokespecial 81, 3) := by decide +kernel
theorem dX8_init_154 : decode cX8_init 154 = .ok (.aastore, 1) := by decide +kernel
theorem dX8_init_155 : decode cX8_init 155 = .ok (.iinc 1 1, 3) := by decide +kernel
theorem dX8_init_158 : decode cX8_init 158 = .ok (.goto (-22), 3) := by decide +kernel
theorem dX8_init_161 : decode cX8_init 161 = .ok (.iconst 0, 1) := by decide +kernel
theorem dX8_init_162 : decode cX8_init 162 = .ok (.istore_n 1, 1) := by decide +kernel
theorem dX8_init_163 : decode cX8_init 163 = .ok (.iload_n 1, 1) := by decide +kernel
theorem dX8_init_164 : decode cX8_init 164 = .ok (.bipush 30, 2) := by decide +kernel
theorem dX8_init_166 : decode cX8_init 166 = .ok (.if_icmp .ge 22, 3) := by decide +kernel
theorem dX8_init_169 : decode cX8_init 169 = .ok (.aload_n 0, 1) := by decide +kernel
theorem dX8_init_170 : decode cX8_init 170 = .ok (.getfield 41, 3) := by decide +kernel
theorem dX8_init_173 : decode cX8_init 173 = .ok (.iload_n 1, 1) := by decide +kernel
theorem dX8_init_174 : decode cX8_init 174 = .ok (.new 39, 3) := by decide +kernel
theorem dX8_init_177 : decode cX8_init 177 = .ok (.dup, 1) := by decide +kernel
theorem dX8_init_178 : decode cX8_init 178 = .ok (.invokespecial 82, 3) := by decide +kernel
theorem dX8_init_181 : decode cX8_init 181 = .ok (.aastore, 1) := by decide +kernel
theorem dX8_init_182 : decode cX8_init 182 = .ok (.iinc 1 1, 3) := by decide +kernel
theorem dX8_init_185 : decode cX8_init 185 = .ok (.goto (-22), 3) := by decide +kernel
theorem dX8_init_188 : decode cX8_init 188 = .ok (.iconst 0, 1) := by decide +kernel
theorem dX8_init_189 : decode cX8_init 189 = .ok (.istore_n 1, 1) := by decide +kernel
theorem dX8_init_190 : decode cX8_init 190 = .ok (.iload_n 1, 1) := by decide +kernel
theorem dX8_init_191 : decode cX8_init 191 = .ok (.bipush 16, 2) := by decide +kernel
theorem dX8_init_193 : decode cX8_init 193 = .ok (.if_icmp .ge 22, 3) := by decide +kernel
theorem dX8_init_196 : decode cX8_init 196 = .ok (.aload_n 0, 1) := by decide +kernel
theorem dX8_init_197 : decode cX8_init 197 = .ok (.getfield 47, 3) := by decide +kernel
theorem dX8_init_200 : decode cX8_init 200 = .ok (.iload_n 1, 1) := by decide +kernel
theorem dX8_init_201 : decode cX8_init 201 = .ok (.new 45, 3) := by decide +kernel
theorem dX8_init_204 : decode cX8_init 204 = .ok (.dup, 1) := by decide +kernel
theorem dX8_init_205 : decode cX8_init 205 = .ok (.invokespecial 83, 3) := by decide +kernel
theorem dX8_init_208 : decode cX8_init 208 = .ok (.aastore, 1) := by decide +kernel
theorem dX8_init_209 : decode cX8_init 209 = .ok (.iinc 1 1, 3) := by decide +kernel
theorem dX8_init_212 : decode cX8_init 212 = .ok (.goto (-22), 3) := by decide +kernel
theorem dX8_init_215 : decode cX8_init 215 = .ok (.return_, 1) := by decide +kernel
theorem dX8_become_0 : decode cX8_become 0 = .ok (.aload_n 0, 1) := by decide +kernel
theorem dX8_become_1 : decode cX8_become 1 = .ok (.aload_n 1, 1) := by decide +kernel
theorem dX8_become_2 : decode cX8_become 2 = .ok (.getfield 9, 3) := by decide +kernel
theorem dX8_become_5 : decode cX8_become 5 = .ok (.putfield 9, 3) := by decide +kernel
theorem dX8_become_8 : decode cX8_become 8 = .ok (.aload_n 0, 1) := by decide +kernel
theorem dX8_become_9 : decode cX8_become 9 = .ok (.aload_n 1, 1) := by decide +kernel
theorem dX8_become_10 : decode cX8_become 10 = .ok (.getfield 15, 3) := by decide +kernel
theorem dX8_become_13 : decode cX8_become 13 = .ok (.putfield 15, 3) := by decide +kernel
theorem dX8_become_16 : decode cX8_become 16 = .ok (.aload_n 0, 1) := by decide +kernel
theorem dX8_become_17 : decode cX8_become 17 = .ok (.aload_n 1, 1) := by decide +kernel
theorem dX8_become_18 : decode cX8_become 18 = .ok (.getfield 18, 3) := by decide +kernel
theorem dX8_become_21 : decode cX8_become 21 = .ok (.putfield 18, 3) := by decide +kernel
theorem dX8_become_24 : decode cX8_become 24 = .ok (.aload_n 0, 1) := by decide +kernel
theorem dX8_become_25 : decode cX8_become 25 = .ok (.aload_n 1, 1) := by decide +kernel
theorem dX8_become_26 : decode cX8_become 26 = .ok (.getfield 21, 3) := by decide +kernel
theorem dX8_become_29 : decode cX8_become 29 = .ok (.putfield 21, 3) := by decide +kernel
theorem dX8_become_32 : decode cX8_become 32 = .ok (.aload_n 0, 1) := by decide +kernel
theorem dX8_become_33 : decode cX8_become 33 = .ok (.aload_n 1, 1) := by decide +kernel
theorem dX8_become_34 : decode cX8_become 34 = .ok (.getfield 24, 3) := by decide +kernel
theorem dX8_become_37 : decode cX8_become 37 = .ok (.putfield 24, 3) := by decide +kernel
theorem dX8_become_40 : decode cX8_become 40 = .ok (.iconst 0, 1) := by decide +kernel
theorem dX8_become_41 : decode cX8_become 41 = .ok (.istore_n 2, 1) := by decide +kernel
theorem dX8_become_42 : decode cX8_become 42 = .ok (.iload_n 2, 1) := by decide +kernel
theorem dX8_become_43 : decode cX8_become 43 = .ok (.aload_n 0, 1) := by decide +kernel
theorem dX8_become_44 : decode cX8_become 44 = .ok (.getfield 15, 3) := by decide +kernel
theorem dX8_become_47 : decode cX8_become 47 = .ok (.if_icmp .ge 24, 3) := by decide +kernel
theorem dX8_become_50 : decode cX8_become 50 = .ok (.aload_n 0, 1) := by decide +kernel
theorem dX8_become_51 : decode cX8_become 51 = .ok (.getfield 29, 3) := by decide +kernel
theorem dX8_become_54 : decode cX8_become 54 = .ok (.iload_n 2, 1) := by decide +kernel
theorem dX8_become_55 : decode cX8_become 55 = .ok (.aaload, 1) := by decide +kernel
theorem dX8_become_56 : decode cX8_become 56 = .ok (.aload_n 1, 1) := by decide +kernel
theorem dX8_become_57 : decode cX8_become 57 = .ok (.getfield 29, 3) := by decide +kernel
theorem dX8_become_60 : decode cX8_become 60 = .ok (.iload_n 2, 1) := by decide +kernel
theorem dX8_become_61 : decode cX8_become 61 = .ok (.aaload, 1) := by decide +kernel
theorem dX8_become_62 : decode cX8_become 62 = .ok (.invokevirtual 84, 3) := by decide +kernel
theorem dX8_become_65 : decode cX8_become 65 = .ok (.iinc 2 1, 3) := by decide +kernel
theorem dX8_become_68 : decode cX8_become 68 = .ok (.goto (-26), 3) := by decide +kernel
theorem dX8_become_71 : decode cX8_become 71 = .ok (.iconst 0, 1) := by decide +kernel
theorem dX8_become_72 : decode cX8_become 72 = .ok (.istore_n 2, 1) := by decide +kernel
theorem dX8_become_73 : decode cX8_become 73 = .ok (.iload_n 2, 1) := by decide +kernel
theorem dX8_become_74 : decode cX8_become 74 = .ok (.aload_n 0, 1) := by decide +kernel
theorem dX8_become_75 : decode cX8_become 75 = .ok (.getfield 18, 3) := by decide +kernel
theorem dX8_become_78 : decode cX8_become 78 = .ok (.if_icmp .ge 24, 3) := by decide +kernel
theorem dX8_become_81 : decode cX8_become 81 = .ok (.aload_n 0, 1) := by decide +kernel
theorem dX8_become_82 : decode cX8_become 82 = .ok (.getfield 35, 3) := by decide +kernel
theorem dX8_become_85 : decode cX8_become 85 = .ok (.iload_n 2, 1) := by decide +kernel
theorem dX8_become_86 : decode cX8_become 86 = .ok (.aaload, 1) := by decide +kernel
theorem dX8_become_87 : decode cX8_become 87 = .ok (.aload_n 1, 1) := by decide +kernel
theorem dX8_become_88 : decode cX8_become 88 = .ok (.getfield 35, 3) := by decide +kernel
theorem dX8_become_91 : decode cX8_become 91 = .ok (.iload_n 2, 1) := by decide +kernel
theorem dX8_become_92 : decode cX8_become 92 = .ok (.aaload, 1) := by decide +kernel
theorem dX8_become_93 : decode cX8_become 93 = .ok (.invokevirtual 88, 3) := by decide +kernel
theorem dX8_become_96 : decode cX8_become 96 = .ok (.iinc 2 1, 3) := by decide +kernel
theorem dX8_become_99 : decode cX8_become 99 = .ok (.goto (-26), 3) := by decide +kernel
theorem dX8_become_102 : decode cX8_become 102 = .ok (.iconst 0, 1) := by decide +kernel
theorem dX8_become_103 : decode cX8_become 103 = .ok (.istore_n 2, 1) := by decide +kernel
theorem dX8_become_104 : decode cX8_become 104 = .ok (.iload_n 2, 1) := by decide +kernel
theorem dX8_become_105 : decode cX8_become 105 = .ok (.aload_n 0, 1) := by decide +kernel
theorem dX8_become_106 : decode cX8_become 106 = .ok (.getfield 21, 3) := by decide +kernel
theorem dX8_become_109 : decode cX8_become 109 = .ok (.if_icmp .ge 24, 3) := by decide +kernel
theorem dX8_become_112 : decode cX8_become 112 = .ok (.aload_n 0, 1) := by decide +kernel
theorem dX8_become_113 : decode cX8_become 113 = .ok (.getfield 41, 3) := by decide +kernel
theorem dX8_become_116 : decode cX8_become 116 = .ok (.iload_n 2, 1) := by decide +kernel
theorem dX8_become_117 : decode cX8_become 117 = .ok (.aaload, 1) := by decide +kernel
theorem dX8_become_118 : decode cX8_become 118 = .ok (.aload_n 1, 1) := by decide +kernel
theorem dX8_become_119 : decode cX8_become 119 = .ok (.getfield 41, 3) := by decide +kernel
theorem dX8_become_122 : decode cX8_become 122 = .ok (.iload_n 2, 1) := by decide +kernel
theorem dX8_become_123 : decode cX8_become 123 = .ok (.aaload, 1) := by decide +kernel
theorem dX8_become_124 : decode cX8_become 124 = .ok (.invokevirtual 91, 3) := by decide +kernel
theorem dX8_become_127 : decode cX8_become 127 = .ok (.iinc 2 1, 3) := by decide +kernel
theorem dX8_become_130 : decode cX8_become 130 = .ok (.goto (-26), 3) := by decide +kernel
theorem dX8_become_133 : decode cX8_become 133 = .ok (.iconst 0, 1) := by decide +kernel
theorem dX8_become_134 : decode cX8_become 134 = .ok (.istore_n 2, 1) := by decide +kernel
theorem dX8_become_135 : decode cX8_become 135 = .ok (.iload_n 2, 1) := by decide +kernel
theorem dX8_become_136 : decode cX8_become 136 = .ok (.aload_n 0, 1) := by decide +kernel
theorem dX8_become_137 : decode cX8_become 137 = .ok (.getfield 24, 3) := by decide +kernel
theorem dX8_become_140 : decode cX8_become 140 = .ok (.if_icmp .ge 24, 3) := by decide +kernel
theorem dX8_become_143 : decode cX8_become 143 = .ok (.aload_n 0, 1) := by decide +kernel
theorem dX8_become_144 : decode cX8_become 144 = .ok (.getfield 47, 3) := by decide +kernel
theorem dX8_become_147 : decode cX8_become 147 = .ok (.iload_n 2, 1) := by decide +kernel
theorem dX8_become_148 : decode cX8_become 148 = .ok (.aaload, 1) := by decide +kernel
theorem dX8_become_149 : decode cX8_become 149 = .ok (.aload_n 1, 1) := by decide +kernel
theorem dX8_become_150 : decode cX8_become 150 = .ok (.getfield 47, 3) := by decide +kernel
theorem dX8_become_153 : decode cX8_become 153 = .ok (.iload_n 2, 1) := by decide +kernel
theorem dX8_become_154 : decode cX8_become 154 = .ok (.aaload, 1) := by decide +kernel
theorem dX8_become_155 : decode cX8_become 155 = .ok (.invokevirtual 94, 3) := by decide +kernel
theorem dX8_become_158 : decode cX8_become 158 = .ok (.iinc 2 1, 3) := by decide +kernel
theorem dX8_become_161 : decode cX8_become 161 = .ok (.goto (-26), 3) := by decide +kernel
theorem dX8_become_164 : decode cX8_become 164 = .ok (.aload_n 1, 1) := by decide +kernel
theorem dX8_become_165 : decode cX8_become 165 = .ok (.getfield 60, 3) := by decide +kernel
theorem dX8_become_168 : decode cX8_become 168 = .ok (.iconst 0, 1) := by decide +kernel
theorem dX8_become_169 : decode cX8_become 169 = .ok (.aload_n 0, 1) := by decide +kernel
theorem dX8_become_170 : decode cX8_become 170 = .ok (.getfield 60, 3) := by decide +kernel
theorem dX8_become_173 : decode cX8_become 173 = .ok (.iconst 0, 1) := by decide +kernel
theorem dX8_become_174 : decode cX8_become 174 = .ok (.bipush 16, 2) := by decide +kernel
theorem dX8_become_176 : decode cX8_become 176 = .ok (.invokestatic 97, 3) := by decide +kernel
theorem dX8_become_179 : decode cX8_become 179 = .ok (.aload_n 1, 1) := by decide +kernel
theorem dX8_become_180 : decode cX8_become 180 = .ok (.getfield 63, 3) := by decide +kernel
theorem dX8_become_183 : decode cX8_become 183 = .ok (.iconst 0, 1) := by decide +kernel
theorem dX8_become_184 : decode cX8_become 184 = .ok (.aload_n 0, 1) := by decide +kernel
theorem dX8_become_185 : decode cX8_become 185 = .ok (.getfield 63, 3) := by decide +kernel
theorem dX8_become_188 : decode cX8_become 188 = .ok (.iconst 0, 1) := by decide +kernel
theorem dX8_become_189 : decode cX8_become 189 = .ok (.iconst 4, 1) := by decide +kernel
theorem dX8_become_190 : decode cX8_become 190 = .ok (.invokestatic 97, 3) := by decide +kernel
theorem dX8_become_193 : decode cX8_become 193 = .ok (.aload_n 0, 1) := by decide +kernel
theorem dX8_become_194 : decode cX8_become 194 = .ok (.getfield 69, 3) := by decide +kernel
theorem dX8_become_197 : decode cX8_become 197 = .ok (.aload_n 1, 1) := by decide +kernel
theorem dX8_become_198 : decode cX8_become 198 = .ok (.getfield 69, 3) := by decide +kernel
theorem dX8_become_201 : decode cX8_become 201 = .ok (.invokevirtual 103, 3) := by decide +kernel
theorem dX8_become_204 : decode cX8_become 204 = .ok (.return_, 1) := by decide +kernel
theorem dX8_hasPerson_0 : decode cX8_hasPerson 0 = .ok (.iload_n 1, 1) := by decide +kernel
theorem dX8_hasPerson_1 : decode cX8_hasPerson 1 = .ok (.iconst 0, 1) := by decide +kernel
theorem dX8_hasPerson_2 : decode cX8_hasPerson 2 = .ok (.aload_n 0, 1) := by decide +kernel
theorem dX8_hasPerson_3 : decode cX8_hasPerson 3 = .ok (.getfield 15, 3) := by decide +kernel
theorem dX8_hasPerson_6 : decode cX8_hasPerson 6 = .ok (.iconst 1, 1) := by decide +kernel
theorem dX8_hasPerson_7 : decode cX8_hasPerson 7 = .ok (.isub, 1) := by decide +kernel
theorem dX8_hasPerson_8 : decode cX8_hasPerson 8 = .ok (.invokestatic 106, 3) := by decide +kernel
theorem dX8_hasPerson_11 : decode cX8_hasPerson 11 = .ok (.ireturn, 1) := by decide +kernel
theorem dX8_hasDeed_0 : decode cX8_hasDeed 0 = .ok (.iload_n 1, 1) := by decide +kernel
theorem dX8_hasDeed_1 : decode cX8_hasDeed 1 = .ok (.iconst 0, 1) := by decide +kernel
theorem dX8_hasDeed_2 : decode cX8_hasDeed 2 = .ok (.aload_n 0, 1) := by decide +kernel
theorem dX8_hasDeed_3 : decode cX8_hasDeed 3 = .ok (.getfield 21, 3) := by decide +kernel
theorem dX8_hasDeed_6 : decode cX8_hasDeed 6 = .ok (.iconst 1, 1) := by decide +kernel
theorem dX8_hasDeed_7 : decode cX8_hasDeed 7 = .ok (.isub, 1) := by decide +kernel
theorem dX8_hasDeed_8 : decode cX8_hasDeed 8 = .ok (.invokestatic 106, 3) := by decide +kernel
theorem dX8_hasDeed_11 : decode cX8_hasDeed 11 = .ok (.ireturn, 1) := by decide +kernel
theorem dX8_hasJudgment_0 : decode cX8_hasJudgment 0 = .ok (.iload_n 1, 1) := by decide +kernel
theorem dX8_hasJudgment_1 : decode cX8_hasJudgment 1 = .ok (.iconst 0, 1) := by decide +kernel
theorem dX8_hasJudgment_2 : decode cX8_hasJudgment 2 = .ok (.aload_n 0, 1) := by decide +kernel
theorem dX8_hasJudgment_3 : decode cX8_hasJudgment 3 = .ok (.getfield 24, 3) := by decide +kernel
theorem dX8_hasJudgment_6 : decode cX8_hasJudgment 6 = .ok (.iconst 1, 1) := by decide +kernel
theorem dX8_hasJudgment_7 : decode cX8_hasJudgment 7 = .ok (.isub, 1) := by decide +kernel
theorem dX8_hasJudgment_8 : decode cX8_hasJudgment 8 = .ok (.invokestatic 106, 3) := by decide +kernel
theorem dX8_hasJudgment_11 : decode cX8_hasJudgment 11 = .ok (.ireturn, 1) := by decide +kernel
theorem dX8_hasLaw_0 : decode cX8_hasLaw 0 = .ok (.aload_n 0, 1) := by decide +kernel
theorem dX8_hasLaw_1 : decode cX8_hasLaw 1 = .ok (.getfield 69, 3) := by decide +kernel
theorem dX8_hasLaw_4 : decode cX8_hasLaw 4 = .ok (.getfield 110, 3) := by decide +kernel
theorem dX8_hasLaw_7 : decode cX8_hasLaw 7 = .ok (.ifCond .le 7, 3) := by decide +kernel
theorem dX8_hasLaw_10 : decode cX8_hasLaw 10 = .ok (.iconst 1, 1) := by decide +kernel
theorem dX8_hasLaw_11 : decode cX8_hasLaw 11 = .ok (.goto 4, 3) := by decide +kernel
theorem dX8_hasLaw_14 : decode cX8_hasLaw 14 = .ok (.iconst 0, 1) := by decide +kernel
theorem dX8_hasLaw_15 : decode cX8_hasLaw 15 = .ok (.ireturn, 1) := by decide +kernel
theorem dX8_valueOf_0 : decode cX8_valueOf 0 = .ok (.iconst (-1), 1) := by decide +kernel
theorem dX8_valueOf_1 : decode cX8_valueOf 1 = .ok (.istore 5, 2) := by decide +kernel
theorem dX8_valueOf_3 : decode cX8_valueOf 3 = .ok (.iconst 0, 1) := by decide +kernel
theorem dX8_valueOf_4 : decode cX8_valueOf 4 = .ok (.istore 6, 2) := by decide +kernel
theorem dX8_valueOf_6 : decode cX8_valueOf 6 = .ok (.iload 6, 2) := by decide +kernel
theorem dX8_valueOf_8 : decode cX8_valueOf 8 = .ok (.aload_n 0, 1) := by decide +kernel
theorem dX8_valueOf_9 : decode cX8_valueOf 9 = .ok (.getfield 18, 3) := by decide +kernel
theorem dX8_valueOf_12 : decode cX8_valueOf 12 = .ok (.if_icmp .ge 59, 3) := by decide +kernel
theorem dX8_valueOf_15 : decode cX8_valueOf 15 = .ok (.aload_n 0, 1) := by decide +kernel
theorem dX8_valueOf_16 : decode cX8_valueOf 16 = .ok (.getfield 35, 3) := by decide +kernel
theorem dX8_valueOf_19 : decode cX8_valueOf 19 = .ok (.iload 6, 2) := by decide +kernel
theorem dX8_valueOf_21 : decode cX8_valueOf 21 = .ok (.aaload, 1) := by decide +kernel
theorem dX8_valueOf_22 : decode cX8_valueOf 22 = .ok (.iload_n 1, 1) := by decide +kernel
theorem dX8_valueOf_23 : decode cX8_valueOf 23 = .ok (.iload_n 2, 1) := by decide +kernel
theorem dX8_valueOf_24 : decode cX8_valueOf 24 = .ok (.iload_n 3, 1) := by decide +kernel
theorem dX8_valueOf_25 : decode cX8_valueOf 25 = .ok (.iload 4, 2) := by decide +kernel
theorem dX8_valueOf_27 : decode cX8_valueOf 27 = .ok (.invokevirtual 113, 3) := by decide +kernel
theorem dX8_valueOf_30 : decode cX8_valueOf 30 = .ok (.ifCond .ne 6, 3) := by decide +kernel
theorem dX8_valueOf_33 : decode cX8_valueOf 33 = .ok (.goto 32, 3) := by decide +kernel
theorem dX8_valueOf_36 : decode cX8_valueOf 36 = .ok (.iload 5, 2) := by decide +kernel
theorem dX8_valueOf_38 : decode cX8_valueOf 38 = .ok (.ifCond .lt 23, 3) := by decide +kernel
theorem dX8_valueOf_41 : decode cX8_valueOf 41 = .ok (.aload_n 0, 1) := by decide +kernel
theorem dX8_valueOf_42 : decode cX8_valueOf 42 = .ok (.getfield 35, 3) := by decide +kernel
theorem dX8_valueOf_45 : decode cX8_valueOf 45 = .ok (.iload 6, 2) := by decide +kernel
theorem dX8_valueOf_47 : decode cX8_valueOf 47 = .ok (.aaload, 1) := by decide +kernel
theorem dX8_valueOf_48 : decode cX8_valueOf 48 = .ok (.aload_n 0, 1) := by decide +kernel
theorem dX8_valueOf_49 : decode cX8_valueOf 49 = .ok (.getfield 35, 3) := by decide +kernel
theorem dX8_valueOf_52 : decode cX8_valueOf 52 = .ok (.iload 5, 2) := by decide +kernel
theorem dX8_valueOf_54 : decode cX8_valueOf 54 = .ok (.aaload, 1) := by decide +kernel
theorem dX8_valueOf_55 : decode cX8_valueOf 55 = .ok (.invokevirtual 117, 3) := by decide +kernel
theorem dX8_valueOf_58 : decode cX8_valueOf 58 = .ok (.ifCond .eq 7, 3) := by decide +kernel
theorem dX8_valueOf_61 : decode cX8_valueOf 61 = .ok (.iload 6, 2) := by decide +kernel
theorem dX8_valueOf_63 : decode cX8_valueOf 63 = .ok (.istore 5, 2) := by decide +kernel
theorem dX8_valueOf_65 : decode cX8_valueOf 65 = .ok (.iinc 6 1, 3) := by decide +kernel
theorem dX8_valueOf_68 : decode cX8_valueOf 68 = .ok (.goto (-62), 3) := by decide +kernel
theorem dX8_valueOf_71 : decode cX8_valueOf 71 = .ok (.iload 5, 2) := by decide +kernel
theorem dX8_valueOf_73 : decode cX8_valueOf 73 = .ok (.ifCond .lt 14, 3) := by decide +kernel
theorem dX8_valueOf_76 : decode cX8_valueOf 76 = .ok (.aload_n 0, 1) := by decide +kernel
theorem dX8_valueOf_77 : decode cX8_valueOf 77 = .ok (.getfield 35, 3) := by decide +kernel
theorem dX8_valueOf_80 : decode cX8_valueOf 80 = .ok (.iload 5, 2) := by decide +kernel
theorem dX8_valueOf_82 : decode cX8_valueOf 82 = .ok (.aaload, 1) := by decide +kernel
theorem dX8_valueOf_83 : decode cX8_valueOf 83 = .ok (.getfield 121, 3) := by decide +kernel
theorem dX8_valueOf_86 : decode cX8_valueOf 86 = .ok (.ireturn, 1) := by decide +kernel
theorem dX8_valueOf_87 : decode cX8_valueOf 87 = .ok (.iload_n 2, 1) := by decide +kernel
theorem dX8_valueOf_88 : decode cX8_valueOf 88 = .ok (.ifCond .ne 12, 3) := by decide +kernel
theorem dX8_valueOf_91 : decode cX8_valueOf 91 = .ok (.aload_n 0, 1) := by decide +kernel
theorem dX8_valueOf_92 : decode cX8_valueOf 92 = .ok (.getfield 60, 3) := by decide +kernel
theorem dX8_valueOf_95 : decode cX8_valueOf 95 = .ok (.iconst 0, 1) := by decide +kernel
theorem dX8_valueOf_96 : decode cX8_valueOf 96 = .ok (.iaload, 1) := by decide +kernel
theorem dX8_valueOf_97 : decode cX8_valueOf 97 = .ok (.goto 4, 3) := by decide +kernel
theorem dX8_valueOf_100 : decode cX8_valueOf 100 = .ok (.iconst 0, 1) := by decide +kernel
theorem dX8_valueOf_101 : decode cX8_valueOf 101 = .ok (.ireturn, 1) := by decide +kernel
theorem dX8_earnings_0 : decode cX8_earnings 0 = .ok (.aload_n 0, 1) := by decide +kernel
theorem dX8_earnings_1 : decode cX8_earnings 1 = .ok (.iload_n 1, 1) := by decide +kernel
theorem dX8_earnings_2 : decode cX8_earnings 2 = .ok (.iload_n 2, 1) := by decide +kernel
theorem dX8_earnings_3 : decode cX8_earnings 3 = .ok (.iload_n 3, 1) := by decide +kernel
theorem dX8_earnings_4 : decode cX8_earnings 4 = .ok (.invokevirtual 124, 3) := by decide +kernel
theorem dX8_earnings_7 : decode cX8_earnings 7 = .ok (.istore 4, 2) := by decide +kernel
theorem dX8_earnings_9 : decode cX8_earnings 9 = .ok (.aload_n 0, 1) := by decide +kernel
theorem dX8_earnings_10 : decode cX8_earnings 10 = .ok (.getfield 29, 3) := by decide +kernel
theorem dX8_earnings_13 : decode cX8_earnings 13 = .ok (.iload_n 1, 1) := by decide +kernel
theorem dX8_earnings_14 : decode cX8_earnings 14 = .ok (.aaload, 1) := by decide +kernel
theorem dX8_earnings_15 : decode cX8_earnings 15 = .ok (.getfield 128, 3) := by decide +kernel
theorem dX8_earnings_18 : decode cX8_earnings 18 = .ok (.istore 5, 2) := by decide +kernel
theorem dX8_earnings_20 : decode cX8_earnings 20 = .ok (.aload_n 0, 1) := by decide +kernel
theorem dX8_earnings_21 : decode cX8_earnings 21 = .ok (.iload 5, 2) := by decide +kernel
theorem dX8_earnings_23 : decode cX8_earnings 23 = .ok (.invokevirtual 131, 3) := by decide +kernel
theorem dX8_earnings_26 : decode cX8_earnings 26 = .ok (.ifCond .eq 19, 3) := by decide +kernel
theorem dX8_earnings_29 : decode cX8_earnings 29 = .ok (.iload 4, 2) := by decide +kernel
theorem dX8_earnings_31 : decode cX8_earnings 31 = .ok (.aload_n 0, 1) := by decide +kernel
theorem dX8_earnings_32 : decode cX8_earnings 32 = .ok (.iload 5, 2) := by decide +kernel
theorem dX8_earnings_34 : decode cX8_earnings 34 = .ok (.iload_n 2, 1) := by decide +kernel
theorem dX8_earnings_35 : decode cX8_earnings 35 = .ok (.iload_n 3, 1) := by decide +kernel
theorem dX8_earnings_36 : decode cX8_earnings 36 = .ok (.invokevirtual 124, 3) := by decide +kernel
theorem dX8_earnings_39 : decode cX8_earnings 39 = .ok (.iadd, 1) := by decide +kernel
theorem dX8_earnings_40 : decode cX8_earnings 40 = .ok (.iconst 2, 1) := by decide +kernel
theorem dX8_earnings_41 : decode cX8_earnings 41 = .ok (.idiv, 1) := by decide +kernel
theorem dX8_earnings_42 : decode cX8_earnings 42 = .ok (.goto 5, 3) := by decide +kernel
theorem dX8_earnings_45 : decode cX8_earnings 45 = .ok (.iload 4, 2) := by decide +kernel
theorem dX8_earnings_47 : decode cX8_earnings 47 = .ok (.ireturn, 1) := by decide +kernel
theorem dX8_earningsAlone_0 : decode cX8_earningsAlone 0 = .ok (.aload_n 0, 1) := by decide +kernel
theorem dX8_earningsAlone_1 : decode cX8_earningsAlone 1 = .ok (.iload_n 1, 1) := by decide +kernel
theorem dX8_earningsAlone_2 : decode cX8_earningsAlone 2 = .ok (.iconst 0, 1) := by decide +kernel
theorem dX8_earningsAlone_3 : decode cX8_earningsAlone 3 = .ok (.iload_n 2, 1) := by decide +kernel
theorem dX8_earningsAlone_4 : decode cX8_earningsAlone 4 = .ok (.iload_n 3, 1) := by decide +kernel
theorem dX8_earningsAlone_5 : decode cX8_earningsAlone 5 = .ok (.invokevirtual 135, 3) := by decide +kernel
theorem dX8_earningsAlone_8 : decode cX8_earningsAlone 8 = .ok (.istore 4, 2) := by decide +kernel
theorem dX8_earningsAlone_10 : decode cX8_earningsAlone 10 = .ok (.aload_n 0, 1) := by decide +kernel
theorem dX8_earningsAlone_11 : decode cX8_earningsAlone 11 = .ok (.getfield 29, 3) := by decide +kernel
theorem dX8_earningsAlone_14 : decode cX8_earningsAlone 14 = .ok (.iload_n 1, 1) := by decide +kernel
theorem dX8_earningsAlone_15 : decode cX8_earningsAlone 15 = .ok (.aaload, 1) := by decide +kernel
theorem dX8_earningsAlone_16 : decode cX8_earningsAlone 16 = .ok (.iconst 3, 1) := by decide +kernel
theorem dX8_earningsAlone_17 : decode cX8_earningsAlone 17 = .ok (.invokevirtual 139, 3) := by decide +kernel
theorem dX8_earningsAlone_20 : decode cX8_earningsAlone 20 = .ok (.ifCond .ne 6, 3) := by decide +kernel
theorem dX8_earningsAlone_23 : decode cX8_earningsAlone 23 = .ok (.iload 4, 2) := by decide +kernel
theorem dX8_earningsAlone_25 : decode cX8_earningsAlone 25 = .ok (.ireturn, 1) := by decide +kernel
theorem dX8_earningsAlone_26 : decode cX8_earningsAlone 26 = .ok (.iload 4, 2) := by decide +kernel
theorem dX8_earningsAlone_28 : decode cX8_earningsAlone 28 = .ok (.aload_n 0, 1) := by decide +kernel
theorem dX8_earningsAlone_29 : decode cX8_earningsAlone 29 = .ok (.iload_n 1, 1) := by decide +kernel
theorem dX8_earningsAlone_30 : decode cX8_earningsAlone 30 = .ok (.iconst 2, 1) := by decide +kernel
theorem dX8_earningsAlone_31 : decode cX8_earningsAlone 31 = .ok (.iload_n 2, 1) := by decide +kernel
theorem dX8_earningsAlone_32 : decode cX8_earningsAlone 32 = .ok (.iload_n 3, 1) := by decide +kernel
theorem dX8_earningsAlone_33 : decode cX8_earningsAlone 33 = .ok (.invokevirtual 135, 3) := by decide +kernel
theorem dX8_earningsAlone_36 : decode cX8_earningsAlone 36 = .ok (.bipush 24, 2) := by decide +kernel
theorem dX8_earningsAlone_38 : decode cX8_earningsAlone 38 = .ok (.idiv, 1) := by decide +kernel
theorem dX8_earningsAlone_39 : decode cX8_earningsAlone 39 = .ok (.invokestatic 142, 3) := by decide +kernel
theorem dX8_earningsAlone_42 : decode cX8_earningsAlone 42 = .ok (.ireturn, 1) := by decide +kernel
theorem dX8_couples_0 : decode cX8_couples 0 = .ok (.iconst 0, 1) := by decide +kernel
theorem dX8_couples_1 : decode cX8_couples 1 = .ok (.istore_n 1, 1) := by decide +kernel
theorem dX8_couples_2 : decode cX8_couples 2 = .ok (.iconst 0, 1) := by decide +kernel
theorem dX8_couples_3 : decode cX8_couples 3 = .ok (.istore_n 2, 1) := by decide +kernel
theorem dX8_couples_4 : decode cX8_couples 4 = .ok (.iload_n 2, 1) := by decide +kernel
theorem dX8_couples_5 : decode cX8_couples 5 = .ok (.aload_n 0, 1) := by decide +kernel
theorem dX8_couples_6 : decode cX8_couples 6 = .ok (.getfield 15, 3) := by decide +kernel
theorem dX8_couples_9 : decode cX8_couples 9 = .ok (.if_icmp .ge 24, 3) := by decide +kernel
theorem dX8_couples_12 : decode cX8_couples 12 = .ok (.iload_n 1, 1) := by decide +kernel
theorem dX8_couples_13 : decode cX8_couples 13 = .ok (.aload_n 0, 1) := by decide +kernel
theorem dX8_couples_14 : decode cX8_couples 14 = .ok (.getfield 29, 3) := by decide +kernel
theorem dX8_couples_17 : decode cX8_couples 17 = .ok (.iload_n 2, 1) := by decide +kernel
theorem dX8_couples_18 : decode cX8_couples 18 = .ok (.aaload, 1) := by decide +kernel
theorem dX8_couples_19 : decode cX8_couples 19 = .ok (.invokevirtual 148, 3) := by decide +kernel
theorem dX8_couples_22 : decode cX8_couples 22 = .ok (.invokestatic 152, 3) := by decide +kernel
theorem dX8_couples_25 : decode cX8_couples 25 = .ok (.iadd, 1) := by decide +kernel
theorem dX8_couples_26 : decode cX8_couples 26 = .ok (.istore_n 1, 1) := by decide +kernel
theorem dX8_couples_27 : decode cX8_couples 27 = .ok (.iinc 2 1, 3) := by decide +kernel
theorem dX8_couples_30 : decode cX8_couples 30 = .ok (.goto (-26), 3) := by decide +kernel
theorem dX8_couples_33 : decode cX8_couples 33 = .ok (.iload_n 1, 1) := by decide +kernel
theorem dX8_couples_34 : decode cX8_couples 34 = .ok (.iconst 2, 1) := by decide +kernel
theorem dX8_couples_35 : decode cX8_couples 35 = .ok (.idiv, 1) := by decide +kernel
theorem dX8_couples_36 : decode cX8_couples 36 = .ok (.ireturn, 1) := by decide +kernel
theorem dX8_allCustody_0 : decode cX8_allCustody 0 = .ok (.iconst 0, 1) := by decide +kernel
theorem dX8_allCustody_1 : decode cX8_allCustody 1 = .ok (.istore_n 1, 1) := by decide +kernel
theorem dX8_allCustody_2 : decode cX8_allCustody 2 = .ok (.iconst 0, 1) := by decide +kernel
theorem dX8_allCustody_3 : decode cX8_allCustody 3 = .ok (.istore_n 2, 1) := by decide +kernel
theorem dX8_allCustody_4 : decode cX8_allCustody 4 = .ok (.iload_n 2, 1) := by decide +kernel
theorem dX8_allCustody_5 : decode cX8_allCustody 5 = .ok (.aload_n 0, 1) := by decide +kernel
theorem dX8_allCustody_6 : decode cX8_allCustody 6 = .ok (.getfield 15, 3) := by decide +kernel
theorem dX8_allCustody_9 : decode cX8_allCustody 9 = .ok (.if_icmp .ge 21, 3) := by decide +kernel
theorem dX8_allCustody_12 : decode cX8_allCustody 12 = .ok (.iload_n 1, 1) := by decide +kernel
theorem dX8_allCustody_13 : decode cX8_allCustody 13 = .ok (.aload_n 0, 1) := by decide +kernel
theorem dX8_allCustody_14 : decode cX8_allCustody 14 = .ok (.getfield 29, 3) := by decide +kernel
theorem dX8_allCustody_17 : decode cX8_allCustody 17 = .ok (.iload_n 2, 1) := by decide +kernel
theorem dX8_allCustody_18 : decode cX8_allCustody 18 = .ok (.aaload, 1) := by decide +kernel
theorem dX8_allCustody_19 : decode cX8_allCustody 19 = .ok (.getfield 156, 3) := by decide +kernel
theorem dX8_allCustody_22 : decode cX8_allCustody 22 = .ok (.iadd, 1) := by decide +kernel
theorem dX8_allCustody_23 : decode cX8_allCustody 23 = .ok (.istore_n 1, 1) := by decide +kernel
theorem dX8_allCustody_24 : decode cX8_allCustody 24 = .ok (.iinc 2 1, 3) := by decide +kernel
theorem dX8_allCustody_27 : decode cX8_allCustody 27 = .ok (.goto (-23), 3) := by decide +kernel
theorem dX8_allCustody_30 : decode cX8_allCustody 30 = .ok (.iload_n 1, 1) := by decide +kernel
theorem dX8_allCustody_31 : decode cX8_allCustody 31 = .ok (.ireturn, 1) := by decide +kernel
theorem dX8_openDeeds_0 : decode cX8_openDeeds 0 = .ok (.iconst 0, 1) := by decide +kernel
theorem dX8_openDeeds_1 : decode cX8_openDeeds 1 = .ok (.istore_n 1, 1) := by decide +kernel
theorem dX8_openDeeds_2 : decode cX8_openDeeds 2 = .ok (.iconst 0, 1) := by decide +kernel
theorem dX8_openDeeds_3 : decode cX8_openDeeds 3 = .ok (.istore_n 2, 1) := by decide +kernel
theorem dX8_openDeeds_4 : decode cX8_openDeeds 4 = .ok (.iload_n 2, 1) := by decide +kernel
theorem dX8_openDeeds_5 : decode cX8_openDeeds 5 = .ok (.aload_n 0, 1) := by decide +kernel
theorem dX8_openDeeds_6 : decode cX8_openDeeds 6 = .ok (.getfield 21, 3) := by decide +kernel
theorem dX8_openDeeds_9 : decode cX8_openDeeds 9 = .ok (.if_icmp .ge 32, 3) := by decide +kernel
theorem dX8_openDeeds_12 : decode cX8_openDeeds 12 = .ok (.iload_n 1, 1) := by decide +kernel
theorem dX8_openDeeds_13 : decode cX8_openDeeds 13 = .ok (.aload_n 0, 1) := by decide +kernel
theorem dX8_openDeeds_14 : decode cX8_openDeeds 14 = .ok (.getfield 41, 3) := by decide +kernel
theorem dX8_openDeeds_17 : decode cX8_openDeeds 17 = .ok (.iload_n 2, 1) := by decide +kernel
theorem dX8_openDeeds_18 : decode cX8_openDeeds 18 = .ok (.aaload, 1) := by decide +kernel
theorem dX8_openDeeds_19 : decode cX8_openDeeds 19 = .ok (.invokevirtual 159, 3) := by decide +kernel
theorem dX8_openDeeds_22 : decode cX8_openDeeds 22 = .ok (.ifCond .ne 7, 3) := by decide +kernel
theorem dX8_openDeeds_25 : decode cX8_openDeeds 25 = .ok (.iconst 1, 1) := by decide +kernel
theorem dX8_openDeeds_26 : decode cX8_openDeeds 26 = .ok (.goto 4, 3) := by decide +kernel
theorem dX8_openDeeds_29 : decode cX8_openDeeds 29 = .ok (.iconst 0, 1) := by decide +kernel
theorem dX8_openDeeds_30 : decode cX8_openDeeds 30 = .ok (.invokestatic 152, 3) := by decide +kernel
theorem dX8_openDeeds_33 : decode cX8_openDeeds 33 = .ok (.iadd, 1) := by decide +kernel
theorem dX8_openDeeds_34 : decode cX8_openDeeds 34 = .ok (.istore_n 1, 1) := by decide +kernel
theorem dX8_openDeeds_35 : decode cX8_openDeeds 35 = .ok (.iinc 2 1, 3) := by decide +kernel
theorem dX8_openDeeds_38 : decode cX8_openDeeds 38 = .ok (.goto (-34), 3) := by decide +kernel
theorem dX8_openDeeds_41 : decode cX8_openDeeds 41 = .ok (.iload_n 1, 1) := by decide +kernel
theorem dX8_openDeeds_42 : decode cX8_openDeeds 42 = .ok (.ireturn, 1) := by decide +kernel
theorem dX8_hasOpenDeed_0 : decode cX8_hasOpenDeed 0 = .ok (.iconst 0, 1) := by decide +kernel
theorem dX8_hasOpenDeed_1 : decode cX8_hasOpenDeed 1 = .ok (.istore_n 2, 1) := by decide +kernel
theorem dX8_hasOpenDeed_2 : decode cX8_hasOpenDeed 2 = .ok (.iload_n 2, 1) := by decide +kernel
theorem dX8_hasOpenDeed_3 : decode cX8_hasOpenDeed 3 = .ok (.aload_n 0, 1) := by decide +kernel
theorem dX8_hasOpenDeed_4 : decode cX8_hasOpenDeed 4 = .ok (.getfield 21, 3) := by decide +kernel
theorem dX8_hasOpenDeed_7 : decode cX8_hasOpenDeed 7 = .ok (.if_icmp .ge 24, 3) := by decide +kernel
theorem dX8_hasOpenDeed_10 : decode cX8_hasOpenDeed 10 = .ok (.aload_n 0, 1) := by decide +kernel
theorem dX8_hasOpenDeed_11 : decode cX8_hasOpenDeed 11 = .ok (.getfield 41, 3) := by decide +kernel
theorem dX8_hasOpenDeed_14 : decode cX8_hasOpenDeed 14 = .ok (.iload_n 2, 1) := by decide +kernel
theorem dX8_hasOpenDeed_15 : decode cX8_hasOpenDeed 15 = .ok (.aaload, 1) := by decide +kernel
theorem dX8_hasOpenDeed_16 : decode cX8_hasOpenDeed 16 = .ok (.iload_n 1, 1) := by decide +kernel
theorem dX8_hasOpenDeed_17 : decode cX8_hasOpenDeed 17 = .ok (.invokevirtual 162, 3) := by decide +kernel
theorem dX8_hasOpenDeed_20 : decode cX8_hasOpenDeed 20 = .ok (.ifCond .eq 5, 3) := by decide +kernel
theorem dX8_hasOpenDeed_23 : decode cX8_hasOpenDeed 23 = .ok (.iconst 1, 1) := by decide +kernel
theorem dX8_hasOpenDeed_24 : decode cX8_hasOpenDeed 24 = .ok (.ireturn, 1) := by decide +kernel
theorem dX8_hasOpenDeed_25 : decode cX8_hasOpenDeed 25 = .ok (.iinc 2 1, 3) := by decide +kernel
theorem dX8_hasOpenDeed_28 : decode cX8_hasOpenDeed 28 = .ok (.goto (-26), 3) := by decide +kernel
theorem dX8_hasOpenDeed_31 : decode cX8_hasOpenDeed 31 = .ok (.iconst 0, 1) := by decide +kernel
theorem dX8_hasOpenDeed_32 : decode cX8_hasOpenDeed 32 = .ok (.ireturn, 1) := by decide +kernel
theorem dX8_takeOpenDeeds_0 : decode cX8_takeOpenDeeds 0 = .ok (.iconst 0, 1) := by decide +kernel
theorem dX8_takeOpenDeeds_1 : decode cX8_takeOpenDeeds 1 = .ok (.istore_n 3, 1) := by decide +kernel
theorem dX8_takeOpenDeeds_2 : decode cX8_takeOpenDeeds 2 = .ok (.iload_n 3, 1) := by decide +kernel
theorem dX8_takeOpenDeeds_3 : decode cX8_takeOpenDeeds 3 = .ok (.aload_n 0, 1) := by decide +kernel
theorem dX8_takeOpenDeeds_4 : decode cX8_takeOpenDeeds 4 = .ok (.getfield 21, 3) := by decide +kernel
theorem dX8_takeOpenDeeds_7 : decode cX8_takeOpenDeeds 7 = .ok (.if_icmp .ge 32, 3) := by decide +kernel
theorem dX8_takeOpenDeeds_10 : decode cX8_takeOpenDeeds 10 = .ok (.aload_n 0, 1) := by decide +kernel
theorem dX8_takeOpenDeeds_11 : decode cX8_takeOpenDeeds 11 = .ok (.getfield 41, 3) := by decide +kernel
theorem dX8_takeOpenDeeds_14 : decode cX8_takeOpenDeeds 14 = .ok (.iload_n 3, 1) := by decide +kernel
theorem dX8_takeOpenDeeds_15 : decode cX8_takeOpenDeeds 15 = .ok (.aaload, 1) := by decide +kernel
theorem dX8_takeOpenDeeds_16 : decode cX8_takeOpenDeeds 16 = .ok (.iload_n 1, 1) := by decide +kernel
theorem dX8_takeOpenDeeds_17 : decode cX8_takeOpenDeeds 17 = .ok (.invokevirtual 162, 3) := by decide +kernel
theorem dX8_takeOpenDeeds_20 : decode cX8_takeOpenDeeds 20 = .ok (.ifCond .eq 13, 3) := by decide +kernel
theorem dX8_takeOpenDeeds_23 : decode cX8_takeOpenDeeds 23 = .ok (.aload_n 0, 1) := by decide +kernel
theorem dX8_takeOpenDeeds_24 : decode cX8_takeOpenDeeds 24 = .ok (.getfield 41, 3) := by decide +kernel
theorem dX8_takeOpenDeeds_27 : decode cX8_takeOpenDeeds 27 = .ok (.iload_n 3, 1) := by decide +kernel
theorem dX8_takeOpenDeeds_28 : decode cX8_takeOpenDeeds 28 = .ok (.aaload, 1) := by decide +kernel
theorem dX8_takeOpenDeeds_29 : decode cX8_takeOpenDeeds 29 = .ok (.iload_n 2, 1) := by decide +kernel
theorem dX8_takeOpenDeeds_30 : decode cX8_takeOpenDeeds 30 = .ok (.putfield 165, 3) := by decide +kernel
theorem dX8_takeOpenDeeds_33 : decode cX8_takeOpenDeeds 33 = .ok (.iinc 3 1, 3) := by decide +kernel
theorem dX8_takeOpenDeeds_36 : decode cX8_takeOpenDeeds 36 = .ok (.goto (-34), 3) := by decide +kernel
theorem dX8_takeOpenDeeds_39 : decode cX8_takeOpenDeeds 39 = .ok (.return_, 1) := by decide +kernel
theorem dX8_pastOf_0 : decode cX8_pastOf 0 = .ok (.iconst 0, 1) := by decide +kernel
theorem dX8_pastOf_1 : decode cX8_pastOf 1 = .ok (.istore_n 2, 1) := by decide +kernel
theorem dX8_pastOf_2 : decode cX8_pastOf 2 = .ok (.iconst 0, 1) := by decide +kernel
theorem dX8_pastOf_3 : decode cX8_pastOf 3 = .ok (.istore_n 3, 1) := by decide +kernel
theorem dX8_pastOf_4 : decode cX8_pastOf 4 = .ok (.iload_n 3, 1) := by decide +kernel
theorem dX8_pastOf_5 : decode cX8_pastOf 5 = .ok (.aload_n 0, 1) := by decide +kernel
theorem dX8_pastOf_6 : decode cX8_pastOf 6 = .ok (.getfield 24, 3) := by decide +kernel
theorem dX8_pastOf_9 : decode cX8_pastOf 9 = .ok (.if_icmp .ge 59, 3) := by decide +kernel
theorem dX8_pastOf_12 : decode cX8_pastOf 12 = .ok (.aload_n 1, 1) := by decide +kernel
theorem dX8_pastOf_13 : decode cX8_pastOf 13 = .ok (.getfield 168, 3) := by decide +kernel
theorem dX8_pastOf_16 : decode cX8_pastOf 16 = .ok (.aload_n 0, 1) := by decide +kernel
theorem dX8_pastOf_17 : decode cX8_pastOf 17 = .ok (.getfield 47, 3) := by decide +kernel
theorem dX8_pastOf_20 : decode cX8_pastOf 20 = .ok (.iload_n 3, 1) := by decide +kernel
theorem dX8_pastOf_21 : decode cX8_pastOf 21 = .ok (.aaload, 1) := by decide +kernel
theorem dX8_pastOf_22 : decode cX8_pastOf 22 = .ok (.getfield 171, 3) := by decide +kernel
theorem dX8_pastOf_25 : decode cX8_pastOf 25 = .ok (.isub, 1) := by decide +kernel
theorem dX8_pastOf_26 : decode cX8_pastOf 26 = .ok (.istore 4, 2) := by decide +kernel
theorem dX8_pastOf_28 : decode cX8_pastOf 28 = .ok (.aload_n 0, 1) := by decide +kernel
theorem dX8_pastOf_29 : decode cX8_pastOf 29 = .ok (.getfield 47, 3) := by decide +kernel
theorem dX8_pastOf_32 : decode cX8_pastOf 32 = .ok (.iload_n 3, 1) := by decide +kernel
theorem dX8_pastOf_33 : decode cX8_pastOf 33 = .ok (.aaload, 1) := by decide +kernel
theorem dX8_pastOf_34 : decode cX8_pastOf 34 = .ok (.getfield 172, 3) := by decide +kernel
theorem dX8_pastOf_37 : decode cX8_pastOf 37 = .ok (.aload_n 1, 1) := by decide +kernel
theorem dX8_pastOf_38 : decode cX8_pastOf 38 = .ok (.getfield 175, 3) := by decide +kernel
theorem dX8_pastOf_41 : decode cX8_pastOf 41 = .ok (.if_icmp .ne 21, 3) := by decide +kernel
theorem dX8_pastOf_44 : decode cX8_pastOf 44 = .ok (.iload 4, 2) := by decide +kernel
theorem dX8_pastOf_46 : decode cX8_pastOf 46 = .ok (.iconst 1, 1) := by decide +kernel
theorem dX8_pastOf_47 : decode cX8_pastOf 47 = .ok (.aload_n 0, 1) := by decide +kernel
theorem dX8_pastOf_48 : decode cX8_pastOf 48 = .ok (.getfield 60, 3) := by decide +kernel
theorem dX8_pastOf_51 : decode cX8_pastOf 51 = .ok (.iconst 1, 1) := by decide +kernel
theorem dX8_pastOf_52 : decode cX8_pastOf 52 = .ok (.iaload, 1) := by decide +kernel
theorem dX8_pastOf_53 : decode cX8_pastOf 53 = .ok (.invokestatic 106, 3) := by decide +kernel
theorem dX8_pastOf_56 : decode cX8_pastOf 56 = .ok (.ifCond .eq 6, 3) := by decide +kernel
theorem dX8_pastOf_59 : decode cX8_pastOf 59 = .ok (.iinc 2 1, 3) := by decide +kernel
theorem dX8_pastOf_62 : decode cX8_pastOf 62 = .ok (.iinc 3 1, 3) := by decide +kernel
theorem dX8_pastOf_65 : decode cX8_pastOf 65 = .ok (.goto (-61), 3) := by decide +kernel
theorem dX8_pastOf_68 : decode cX8_pastOf 68 = .ok (.iload_n 2, 1) := by decide +kernel
theorem dX8_pastOf_69 : decode cX8_pastOf 69 = .ok (.ireturn, 1) := by decide +kernel
theorem dX8_daysFor_0 : decode cX8_daysFor 0 = .ok (.aload_n 0, 1) := by decide +kernel
theorem dX8_daysFor_1 : decode cX8_daysFor 1 = .ok (.getfield 76, 3) := by decide +kernel
theorem dX8_daysFor_4 : decode cX8_daysFor 4 = .ok (.bipush 103, 2) := by decide +kernel
theorem dX8_daysFor_6 : decode cX8_daysFor 6 = .ok (.aload_n 1, 1) := by decide +kernel
theorem dX8_daysFor_7 : decode cX8_daysFor 7 = .ok (.getfield 176, 3) := by decide +kernel
theorem dX8_daysFor_10 : decode cX8_daysFor 10 = .ok (.invokevirtual 179, 3) := by decide +kernel
theorem dX8_daysFor_13 : decode cX8_daysFor 13 = .ok (.aload_n 0, 1) := by decide +kernel
theorem dX8_daysFor_14 : decode cX8_daysFor 14 = .ok (.getfield 76, 3) := by decide +kernel
theorem dX8_daysFor_17 : decode cX8_daysFor 17 = .ok (.bipush 112, 2) := by decide +kernel
theorem dX8_daysFor_19 : decode cX8_daysFor 19 = .ok (.aload_n 0, 1) := by decide +kernel
theorem dX8_daysFor_20 : decode cX8_daysFor 20 = .ok (.aload_n 1, 1) := by decide +kernel
theorem dX8_daysFor_21 : decode cX8_daysFor 21 = .ok (.invokevirtual 183, 3) := by decide +kernel
theorem dX8_daysFor_24 : decode cX8_daysFor 24 = .ok (.invokevirtual 179, 3) := by decide +kernel
theorem dX8_daysFor_27 : decode cX8_daysFor 27 = .ok (.aload_n 0, 1) := by decide +kernel
theorem dX8_daysFor_28 : decode cX8_daysFor 28 = .ok (.getfield 76, 3) := by decide +kernel
theorem dX8_daysFor_31 : decode cX8_daysFor 31 = .ok (.bipush 97, 2) := by decide +kernel
theorem dX8_daysFor_33 : decode cX8_daysFor 33 = .ok (.aload_n 1, 1) := by decide +kernel
theorem dX8_daysFor_34 : decode cX8_daysFor 34 = .ok (.iconst 2, 1) := by decide +kernel
theorem dX8_daysFor_35 : decode cX8_daysFor 35 = .ok (.invokevirtual 187, 3) := by decide +kernel
theorem dX8_daysFor_38 : decode cX8_daysFor 38 = .ok (.invokestatic 152, 3) := by decide +kernel
theorem dX8_daysFor_41 : decode cX8_daysFor 41 = .ok (.invokevirtual 179, 3) := by decide +kernel
theorem dX8_daysFor_44 : decode cX8_daysFor 44 = .ok (.aload_n 0, 1) := by decide +kernel
theorem dX8_daysFor_45 : decode cX8_daysFor 45 = .ok (.getfield 76, 3) := by decide +kernel
theorem dX8_daysFor_48 : decode cX8_daysFor 48 = .ok (.bipush 107, 2) := by decide +kernel
theorem dX8_daysFor_50 : decode cX8_daysFor 50 = .ok (.aload_n 1, 1) := by decide +kernel
theorem dX8_daysFor_51 : decode cX8_daysFor 51 = .ok (.getfield 188, 3) := by decide +kernel
theorem dX8_daysFor_54 : decode cX8_daysFor 54 = .ok (.invokevirtual 179, 3) := by decide +kernel
theorem dX8_daysFor_57 : decode cX8_daysFor 57 = .ok (.aload_n 0, 1) := by decide +kernel
theorem dX8_daysFor_58 : decode cX8_daysFor 58 = .ok (.getfield 76, 3) := by decide +kernel
theorem dX8_daysFor_61 : decode cX8_daysFor 61 = .ok (.bipush 121, 2) := by decide +kernel
theorem dX8_daysFor_63 : decode cX8_daysFor 63 = .ok (.aload_n 0, 1) := by decide +kernel
theorem dX8_daysFor_64 : decode cX8_daysFor 64 = .ok (.aload_n 1, 1) := by decide +kernel
theorem dX8_daysFor_65 : decode cX8_daysFor 65 = .ok (.getfield 175, 3) := by decide +kernel
theorem dX8_daysFor_68 : decode cX8_daysFor 68 = .ok (.invokevirtual 191, 3) := by decide +kernel
theorem dX8_daysFor_71 : decode cX8_daysFor 71 = .ok (.invokevirtual 179, 3) := by decide +kernel
theorem dX8_daysFor_74 : decode cX8_daysFor 74 = .ok (.aload_n 0, 1) := by decide +kernel
theorem dX8_daysFor_75 : decode cX8_daysFor 75 = .ok (.getfield 76, 3) := by decide +kernel
theorem dX8_daysFor_78 : decode cX8_daysFor 78 = .ok (.aload_n 0, 1) := by decide +kernel
theorem dX8_daysFor_79 : decode cX8_daysFor 79 = .ok (.getfield 69, 3) := by decide +kernel
theorem dX8_daysFor_82 : decode cX8_daysFor 82 = .ok (.iconst 0, 1) := by decide +kernel
theorem dX8_daysFor_83 : decode cX8_daysFor 83 = .ok (.invokevirtual 195, 3) := by decide +kernel
theorem dX8_daysFor_86 : decode cX8_daysFor 86 = .ok (.aload_n 0, 1) := by decide +kernel
theorem dX8_daysFor_87 : decode cX8_daysFor 87 = .ok (.getfield 60, 3) := by decide +kernel
theorem dX8_daysFor_90 : decode cX8_daysFor 90 = .ok (.iconst 2, 1) := by decide +kernel
theorem dX8_daysFor_91 : decode cX8_daysFor 91 = .ok (.iaload, 1) := by decide +kernel
theorem dX8_daysFor_92 : decode cX8_daysFor 92 = .ok (.aload_n 0, 1) := by decide +kernel
theorem dX8_daysFor_93 : decode cX8_daysFor 93 = .ok (.getfield 60, 3) := by decide +kernel
theorem dX8_daysFor_96 : decode cX8_daysFor 96 = .ok (.iconst 3, 1) := by decide +kernel
theorem dX8_daysFor_97 : decode cX8_daysFor 97 = .ok (.iaload, 1) := by decide +kernel
theorem dX8_daysFor_98 : decode cX8_daysFor 98 = .ok (.invokestatic 199, 3) := by decide +kernel
theorem dX8_daysFor_101 : decode cX8_daysFor 101 = .ok (.ireturn, 1) := by decide +kernel
theorem dX8_sumFor_0 : decode cX8_sumFor 0 = .ok (.aload_n 0, 1) := by decide +kernel
theorem dX8_sumFor_1 : decode cX8_sumFor 1 = .ok (.getfield 76, 3) := by decide +kernel
theorem dX8_sumFor_4 : decode cX8_sumFor 4 = .ok (.bipush 105, 2) := by decide +kernel
theorem dX8_sumFor_6 : decode cX8_sumFor 6 = .ok (.aload_n 0, 1) := by decide +kernel
theorem dX8_sumFor_7 : decode cX8_sumFor 7 = .ok (.iload_n 1, 1) := by decide +kernel
theorem dX8_sumFor_8 : decode cX8_sumFor 8 = .ok (.iload_n 2, 1) := by decide +kernel
theorem dX8_sumFor_9 : decode cX8_sumFor 9 = .ok (.iload_n 3, 1) := by decide +kernel
theorem dX8_sumFor_10 : decode cX8_sumFor 10 = .ok (.invokevirtual 202, 3) := by decide +kernel
theorem dX8_sumFor_13 : decode cX8_sumFor 13 = .ok (.invokevirtual 179, 3) := by decide +kernel
theorem dX8_sumFor_16 : decode cX8_sumFor 16 = .ok (.aload_n 0, 1) := by decide +kernel
theorem dX8_sumFor_17 : decode cX8_sumFor 17 = .ok (.getfield 76, 3) := by decide +kernel
theorem dX8_sumFor_20 : decode cX8_sumFor 20 = .ok (.bipush 110, 2) := by decide +kernel
theorem dX8_sumFor_22 : decode cX8_sumFor 22 = .ok (.aload_n 0, 1) := by decide +kernel
theorem dX8_sumFor_23 : decode cX8_sumFor 23 = .ok (.iload_n 1, 1) := by decide +kernel
theorem dX8_sumFor_24 : decode cX8_sumFor 24 = .ok (.iconst 1, 1) := by decide +kernel
theorem dX8_sumFor_25 : decode cX8_sumFor 25 = .ok (.iload_n 2, 1) := by decide +kernel
theorem dX8_sumFor_26 : decode cX8_sumFor 26 = .ok (.iload_n 3, 1) := by decide +kernel
theorem dX8_sumFor_27 : decode cX8_sumFor 27 = .ok (.invokevirtual 135, 3) := by decide +kernel
theorem dX8_sumFor_30 : decode cX8_sumFor 30 = .ok (.invokevirtual 179, 3) := by decide +kernel
theorem dX8_sumFor_33 : decode cX8_sumFor 33 = .ok (.aload_n 0, 1) := by decide +kernel
theorem dX8_sumFor_34 : decode cX8_sumFor 34 = .ok (.getfield 76, 3) := by decide +kernel
theorem dX8_sumFor_37 : decode cX8_sumFor 37 = .ok (.bipush 119, 2) := by decide +kernel
theorem dX8_sumFor_39 : decode cX8_sumFor 39 = .ok (.aload_n 0, 1) := by decide +kernel
theorem dX8_sumFor_40 : decode cX8_sumFor 40 = .ok (.iload_n 1, 1) := by decide +kernel
theorem dX8_sumFor_41 : decode cX8_sumFor 41 = .ok (.iconst 2, 1) := by decide +kernel
theorem dX8_sumFor_42 : decode cX8_sumFor 42 = .ok (.iload_n 2, 1) := by decide +kernel
theorem dX8_sumFor_43 : decode cX8_sumFor 43 = .ok (.iload_n 3, 1) := by decide +kernel
theorem dX8_sumFor_44 : decode cX8_sumFor 44 = .ok (.invokevirtual 135, 3) := by decide +kernel
theorem dX8_sumFor_47 : decode cX8_sumFor 47 = .ok (.invokevirtual 179, 3) := by decide +kernel
theorem dX8_sumFor_50 : decode cX8_sumFor 50 = .ok (.aload_n 0, 1) := by decide +kernel
theorem dX8_sumFor_51 : decode cX8_sumFor 51 = .ok (.getfield 76, 3) := by decide +kernel
theorem dX8_sumFor_54 : decode cX8_sumFor 54 = .ok (.bipush 100, 2) := by decide +kernel
theorem dX8_sumFor_56 : decode cX8_sumFor 56 = .ok (.aload_n 0, 1) := by decide +kernel
theorem dX8_sumFor_57 : decode cX8_sumFor 57 = .ok (.iload_n 1, 1) := by decide +kernel
theorem dX8_sumFor_58 : decode cX8_sumFor 58 = .ok (.iconst 3, 1) := by decide +kernel
theorem dX8_sumFor_59 : decode cX8_sumFor 59 = .ok (.iload_n 2, 1) := by decide +kernel
theorem dX8_sumFor_60 : decode cX8_sumFor 60 = .ok (.iload_n 3, 1) := by decide +kernel
theorem dX8_sumFor_61 : decode cX8_sumFor 61 = .ok (.invokevirtual 135, 3) := by decide +kernel
theorem dX8_sumFor_64 : decode cX8_sumFor 64 = .ok (.invokevirtual 179, 3) := by decide +kernel
theorem dX8_sumFor_67 : decode cX8_sumFor 67 = .ok (.aload_n 0, 1) := by decide +kernel
theorem dX8_sumFor_68 : decode cX8_sumFor 68 = .ok (.getfield 76, 3) := by decide +kernel
theorem dX8_sumFor_71 : decode cX8_sumFor 71 = .ok (.bipush 115, 2) := by decide +kernel
theorem dX8_sumFor_73 : decode cX8_sumFor 73 = .ok (.aload_n 0, 1) := by decide +kernel
theorem dX8_sumFor_74 : decode cX8_sumFor 74 = .ok (.getfield 29, 3) := by decide +kernel
theorem dX8_sumFor_77 : decode cX8_sumFor 77 = .ok (.iload_n 1, 1) := by decide +kernel
theorem dX8_sumFor_78 : decode cX8_sumFor 78 = .ok (.aaload, 1) := by decide +kernel
theorem dX8_sumFor_79 : decode cX8_sumFor 79 = .ok (.iconst 2, 1) := by decide +kernel
theorem dX8_sumFor_80 : decode cX8_sumFor 80 = .ok (.invokevirtual 139, 3) := by decide +kernel
theorem dX8_sumFor_83 : decode cX8_sumFor 83 = .ok (.invokestatic 152, 3) := by decide +kernel
theorem dX8_sumFor_86 : decode cX8_sumFor 86 = .ok (.invokevirtual 179, 3) := by decide +kernel
theorem dX8_sumFor_89 : decode cX8_sumFor 89 = .ok (.aload_n 0, 1) := by decide +kernel
theorem dX8_sumFor_90 : decode cX8_sumFor 90 = .ok (.getfield 76, 3) := by decide +kernel
theorem dX8_sumFor_93 : decode cX8_sumFor 93 = .ok (.bipush 121, 2) := by decide +kernel
theorem dX8_sumFor_95 : decode cX8_sumFor 95 = .ok (.aload_n 0, 1) := by decide +kernel
theorem dX8_sumFor_96 : decode cX8_sumFor 96 = .ok (.iload_n 1, 1) := by decide +kernel
theorem dX8_sumFor_97 : decode cX8_sumFor 97 = .ok (.invokevirtual 191, 3) := by decide +kernel
theorem dX8_sumFor_100 : decode cX8_sumFor 100 = .ok (.invokevirtual 179, 3) := by decide +kernel
theorem dX8_sumFor_103 : decode cX8_sumFor 103 = .ok (.aload_n 0, 1) := by decide +kernel
theorem dX8_sumFor_104 : decode cX8_sumFor 104 = .ok (.getfield 76, 3) := by decide +kernel
theorem dX8_sumFor_107 : decode cX8_sumFor 107 = .ok (.aload_n 0, 1) := by decide +kernel
theorem dX8_sumFor_108 : decode cX8_sumFor 108 = .ok (.getfield 69, 3) := by decide +kernel
theorem dX8_sumFor_111 : decode cX8_sumFor 111 = .ok (.iconst 1, 1) := by decide +kernel
theorem dX8_sumFor_112 : decode cX8_sumFor 112 = .ok (.invokevirtual 195, 3) := by decide +kernel
theorem dX8_sumFor_115 : decode cX8_sumFor 115 = .ok (.aload_n 0, 1) := by decide +kernel
theorem dX8_sumFor_116 : decode cX8_sumFor 116 = .ok (.getfield 60, 3) := by decide +kernel
theorem dX8_sumFor_119 : decode cX8_sumFor 119 = .ok (.bipush 6, 2) := by decide +kernel
theorem dX8_sumFor_121 : decode cX8_sumFor 121 = .ok (.iaload, 1) := by decide +kernel
theorem dX8_sumFor_122 : decode cX8_sumFor 122 = .ok (.aload_n 0, 1) := by decide +kernel
theorem dX8_sumFor_123 : decode cX8_sumFor 123 = .ok (.getfield 60, 3) := by decide +kernel
theorem dX8_sumFor_126 : decode cX8_sumFor 126 = .ok (.bipush 7, 2) := by decide +kernel
theorem dX8_sumFor_128 : decode cX8_sumFor 128 = .ok (.iaload, 1) := by decide +kernel
theorem dX8_sumFor_129 : decode cX8_sumFor 129 = .ok (.invokestatic 199, 3) := by decide +kernel
theorem dX8_sumFor_132 : decode cX8_sumFor 132 = .ok (.ireturn, 1) := by decide +kernel
theorem dX8_hoursFor_0 : decode cX8_hoursFor 0 = .ok (.aload_n 0, 1) := by decide +kernel
theorem dX8_hoursFor_1 : decode cX8_hoursFor 1 = .ok (.getfield 76, 3) := by decide +kernel
theorem dX8_hoursFor_4 : decode cX8_hoursFor 4 = .ok (.bipush 117, 2) := by decide +kernel
theorem dX8_hoursFor_6 : decode cX8_hoursFor 6 = .ok (.aload_n 1, 1) := by decide +kernel
theorem dX8_hoursFor_7 : decode cX8_hoursFor 7 = .ok (.invokevirtual 205, 3) := by decide +kernel
theorem dX8_hoursFor_10 : decode cX8_hoursFor 10 = .ok (.invokevirtual 179, 3) := by decide +kernel
theorem dX8_hoursFor_13 : decode cX8_hoursFor 13 = .ok (.aload_n 0, 1) := by decide +kernel
theorem dX8_hoursFor_14 : decode cX8_hoursFor 14 = .ok (.getfield 76, 3) := by decide +kernel
theorem dX8_hoursFor_17 : decode cX8_hoursFor 17 = .ok (.bipush 121, 2) := by decide +kernel
theorem dX8_hoursFor_19 : decode cX8_hoursFor 19 = .ok (.aload_n 0, 1) := by decide +kernel
theorem dX8_hoursFor_20 : decode cX8_hoursFor 20 = .ok (.aload_n 1, 1) := by decide +kernel
theorem dX8_hoursFor_21 : decode cX8_hoursFor 21 = .ok (.getfield 172, 3) := by decide +kernel
theorem dX8_hoursFor_24 : decode cX8_hoursFor 24 = .ok (.invokevirtual 191, 3) := by decide +kernel
theorem dX8_hoursFor_27 : decode cX8_hoursFor 27 = .ok (.invokevirtual 179, 3) := by decide +kernel
theorem dX8_hoursFor_30 : decode cX8_hoursFor 30 = .ok (.aload_n 0, 1) := by decide +kernel
theorem dX8_hoursFor_31 : decode cX8_hoursFor 31 = .ok (.getfield 76, 3) := by decide +kernel
theorem dX8_hoursFor_34 : decode cX8_hoursFor 34 = .ok (.aload_n 0, 1) := by decide +kernel
theorem dX8_hoursFor_35 : decode cX8_hoursFor 35 = .ok (.getfield 69, 3) := by decide +kernel
theorem dX8_hoursFor_38 : decode cX8_hoursFor 38 = .ok (.iconst 2, 1) := by decide +kernel
theorem dX8_hoursFor_39 : decode cX8_hoursFor 39 = .ok (.invokevirtual 195, 3) := by decide +kernel
theorem dX8_hoursFor_42 : decode cX8_hoursFor 42 = .ok (.iconst 0, 1) := by decide +kernel
theorem dX8_hoursFor_43 : decode cX8_hoursFor 43 = .ok (.sipush 9999, 3) := by decide +kernel
theorem dX8_hoursFor_46 : decode cX8_hoursFor 46 = .ok (.invokestatic 199, 3) := by decide +kernel
theorem dX8_hoursFor_49 : decode cX8_hoursFor 49 = .ok (.ireturn, 1) := by decide +kernel
theorem dX8_youth_0 : decode cX8_youth 0 = .ok (.aload_n 0, 1) := by decide +kernel
theorem dX8_youth_1 : decode cX8_youth 1 = .ok (.getfield 29, 3) := by decide +kernel
theorem dX8_youth_4 : decode cX8_youth 4 = .ok (.iload_n 1, 1) := by decide +kernel
theorem dX8_youth_5 : decode cX8_youth 5 = .ok (.aaload, 1) := by decide +kernel
theorem dX8_youth_6 : decode cX8_youth 6 = .ok (.iconst 1, 1) := by decide +kernel
theorem dX8_youth_7 : decode cX8_youth 7 = .ok (.invokevirtual 139, 3) := by decide +kernel
theorem dX8_youth_10 : decode cX8_youth 10 = .ok (.invokestatic 152, 3) := by decide +kernel
theorem dX8_youth_13 : decode cX8_youth 13 = .ok (.ireturn, 1) := by decide +kernel
theorem dX8_joinedDays_0 : decode cX8_joinedDays 0 = .ok (.iconst 0, 1) := by decide +kernel
theorem dX8_joinedDays_1 : decode cX8_joinedDays 1 = .ok (.istore_n 2, 1) := by decide +kernel
theorem dX8_joinedDays_2 : decode cX8_joinedDays 2 = .ok (.iconst 0, 1) := by decide +kernel
theorem dX8_joinedDays_3 : decode cX8_joinedDays 3 = .ok (.istore_n 3, 1) := by decide +kernel
theorem dX8_joinedDays_4 : decode cX8_joinedDays 4 = .ok (.iconst 0, 1) := by decide +kernel
theorem dX8_joinedDays_5 : decode cX8_joinedDays 5 = .ok (.istore 4, 2) := by decide +kernel
theorem dX8_joinedDays_7 : decode cX8_joinedDays 7 = .ok (.iload 4, 2) := by decide +kernel
theorem dX8_joinedDays_9 : decode cX8_joinedDays 9 = .ok (.aload_n 0, 1) := by decide +kernel
theorem dX8_joinedDays_10 : decode cX8_joinedDays 10 = .ok (.getfield 21, 3) := by decide +kernel
theorem dX8_joinedDays_13 : decode cX8_joinedDays 13 = .ok (.if_icmp .ge 55, 3) := by decide +kernel
theorem dX8_joinedDays_16 : decode cX8_joinedDays 16 = .ok (.aload_n 0, 1) := by decide +kernel
theorem dX8_joinedDays_17 : decode cX8_joinedDays 17 = .ok (.getfield 41, 3) := by decide +kernel
theorem dX8_joinedDays_20 : decode cX8_joinedDays 20 = .ok (.iload 4, 2) := by decide +kernel
theorem dX8_joinedDays_22 : decode cX8_joinedDays 22 = .ok (.aaload, 1) := by decide +kernel
theorem dX8_joinedDays_23 : decode cX8_joinedDays 23 = .ok (.iload_n 1, 1) := by decide +kernel
theorem dX8_joinedDays_24 : decode cX8_joinedDays 24 = .ok (.invokevirtual 162, 3) := by decide +kernel
theorem dX8_joinedDays_27 : decode cX8_joinedDays 27 = .ok (.ifCond .ne 6, 3) := by decide +kernel
theorem dX8_joinedDays_30 : decode cX8_joinedDays 30 = .ok (.goto 32, 3) := by decide +kernel
theorem dX8_joinedDays_33 : decode cX8_joinedDays 33 = .ok (.aload_n 0, 1) := by decide +kernel
theorem dX8_joinedDays_34 : decode cX8_joinedDays 34 = .ok (.aload_n 0, 1) := by decide +kernel
theorem dX8_joinedDays_35 : decode cX8_joinedDays 35 = .ok (.getfield 41, 3) := by decide +kernel
theorem dX8_joinedDays_38 : decode cX8_joinedDays 38 = .ok (.iload 4, 2) := by decide +kernel
theorem dX8_joinedDays_40 : decode cX8_joinedDays 40 = .ok (.aaload, 1) := by decide +kernel
theorem dX8_joinedDays_41 : decode cX8_joinedDays 41 = .ok (.invokevirtual 209, 3) := by decide +kernel
theorem dX8_joinedDays_44 : decode cX8_joinedDays 44 = .ok (.istore 5, 2) := by decide +kernel
theorem dX8_joinedDays_46 : decode cX8_joinedDays 46 = .ok (.iload_n 2, 1) := by decide +kernel
theorem dX8_joinedDays_47 : decode cX8_joinedDays 47 = .ok (.iload 5, 2) := by decide +kernel
theorem dX8_joinedDays_49 : decode cX8_joinedDays 49 = .ok (.invokestatic 142, 3) := by decide +kernel
theorem dX8_joinedDays_52 : decode cX8_joinedDays 52 = .ok (.istore_n 2, 1) := by decide +kernel
theorem dX8_joinedDays_53 : decode cX8_joinedDays 53 = .ok (.iload_n 3, 1) := by decide +kernel
theorem dX8_joinedDays_54 : decode cX8_joinedDays 54 = .ok (.aload_n 0, 1) := by decide +kernel
theorem dX8_joinedDays_55 : decode cX8_joinedDays 55 = .ok (.iload 5, 2) := by decide +kernel
theorem dX8_joinedDays_57 : decode cX8_joinedDays 57 = .ok (.invokevirtual 212, 3) := by decide +kernel
theorem dX8_joinedDays_60 : decode cX8_joinedDays 60 = .ok (.iadd, 1) := by decide +kernel
theorem dX8_joinedDays_61 : decode cX8_joinedDays 61 = .ok (.istore_n 3, 1) := by decide +kernel
theorem dX8_joinedDays_62 : decode cX8_joinedDays 62 = .ok (.iinc 4 1, 3) := by decide +kernel
theorem dX8_joinedDays_65 : decode cX8_joinedDays 65 = .ok (.goto (-58), 3) := by decide +kernel
theorem dX8_joinedDays_68 : decode cX8_joinedDays 68 = .ok (.iload_n 2, 1) := by decide +kernel
theorem dX8_joinedDays_69 : decode cX8_joinedDays 69 = .ok (.iload_n 3, 1) := by decide +kernel
theorem dX8_joinedDays_70 : decode cX8_joinedDays 70 = .ok (.iadd, 1) := by decide +kernel
theorem dX8_joinedDays_71 : decode cX8_joinedDays 71 = .ok (.aload_n 0, 1) := by decide +kernel
theorem dX8_joinedDays_72 : decode cX8_joinedDays 72 = .ok (.iload_n 2, 1) := by decide +kernel
theorem dX8_joinedDays_73 : decode cX8_joinedDays 73 = .ok (.invokevirtual 212, 3) := by decide +kernel
theorem dX8_joinedDays_76 : decode cX8_joinedDays 76 = .ok (.isub, 1) := by decide +kernel
theorem dX8_joinedDays_77 : decode cX8_joinedDays 77 = .ok (.aload_n 0, 1) := by decide +kernel
theorem dX8_joinedDays_78 : decode cX8_joinedDays 78 = .ok (.getfield 60, 3) := by decide +kernel
theorem dX8_joinedDays_81 : decode cX8_joinedDays 81 = .ok (.iconst 5, 1) := by decide +kernel
theorem dX8_joinedDays_82 : decode cX8_joinedDays 82 = .ok (.iaload, 1) := by decide +kernel
theorem dX8_joinedDays_83 : decode cX8_joinedDays 83 = .ok (.invokestatic 215, 3) := by decide +kernel
theorem dX8_joinedDays_86 : decode cX8_joinedDays 86 = .ok (.ireturn, 1) := by decide +kernel
theorem dX8_joinedShare_0 : decode cX8_joinedShare 0 = .ok (.iload_n 1, 1) := by decide +kernel
theorem dX8_joinedShare_1 : decode cX8_joinedShare 1 = .ok (.aload_n 0, 1) := by decide +kernel
theorem dX8_joinedShare_2 : decode cX8_joinedShare 2 = .ok (.getfield 60, 3) := by decide +kernel
theorem dX8_joinedShare_5 : decode cX8_joinedShare 5 = .ok (.iconst 4, 1) := by decide +kernel
theorem dX8_joinedShare_6 : decode cX8_joinedShare 6 = .ok (.iaload, 1) := by decide +kernel
theorem dX8_joinedShare_7 : decode cX8_joinedShare 7 = .ok (.imul, 1) := by decide +kernel
theorem dX8_joinedShare_8 : decode cX8_joinedShare 8 = .ok (.bipush 100, 2) := by decide +kernel
theorem dX8_joinedShare_10 : decode cX8_joinedShare 10 = .ok (.idiv, 1) := by decide +kernel
theorem dX8_joinedShare_11 : decode cX8_joinedShare 11 = .ok (.ireturn, 1) := by decide +kernel
theorem dX8_deedsIn_0 : decode cX8_deedsIn 0 = .ok (.iconst 0, 1) := by decide +kernel
theorem dX8_deedsIn_1 : decode cX8_deedsIn 1 = .ok (.istore_n 2, 1) := by decide +kernel
theorem dX8_deedsIn_2 : decode cX8_deedsIn 2 = .ok (.iconst 0, 1) := by decide +kernel
theorem dX8_deedsIn_3 : decode cX8_deedsIn 3 = .ok (.istore_n 3, 1) := by decide +kernel
theorem dX8_deedsIn_4 : decode cX8_deedsIn 4 = .ok (.iload_n 3, 1) := by decide +kernel
theorem dX8_deedsIn_5 : decode cX8_deedsIn 5 = .ok (.aload_n 0, 1) := by decide +kernel
theorem dX8_deedsIn_6 : decode cX8_deedsIn 6 = .ok (.getfield 21, 3) := by decide +kernel
theorem dX8_deedsIn_9 : decode cX8_deedsIn 9 = .ok (.if_icmp .ge 33, 3) := by decide +kernel
theorem dX8_deedsIn_12 : decode cX8_deedsIn 12 = .ok (.iload_n 2, 1) := by decide +kernel
theorem dX8_deedsIn_13 : decode cX8_deedsIn 13 = .ok (.aload_n 0, 1) := by decide +kernel
theorem dX8_deedsIn_14 : decode cX8_deedsIn 14 = .ok (.getfield 41, 3) := by decide +kernel
theorem dX8_deedsIn_17 : decode cX8_deedsIn 17 = .ok (.iload_n 3, 1) := by decide +kernel
theorem dX8_deedsIn_18 : decode cX8_deedsIn 18 = .ok (.aaload, 1) := by decide +kernel
theorem dX8_deedsIn_19 : decode cX8_deedsIn 19 = .ok (.getfield 165, 3) := by decide +kernel
theorem dX8_deedsIn_22 : decode cX8_deedsIn 22 = .ok (.iload_n 1, 1) := by decide +kernel
theorem dX8_deedsIn_23 : decode cX8_deedsIn 23 = .ok (.if_icmp .ne 7, 3) := by decide +kernel
theorem dX8_deedsIn_26 : decode cX8_deedsIn 26 = .ok (.iconst 1, 1) := by decide +kernel
theorem dX8_deedsIn_27 : decode cX8_deedsIn 27 = .ok (.goto 4, 3) := by decide +kernel
theorem dX8_deedsIn_30 : decode cX8_deedsIn 30 = .ok (.iconst 0, 1) := by decide +kernel
theorem dX8_deedsIn_31 : decode cX8_deedsIn 31 = .ok (.invokestatic 152, 3) := by decide +kernel
theorem dX8_deedsIn_34 : decode cX8_deedsIn 34 = .ok (.iadd, 1) := by decide +kernel
theorem dX8_deedsIn_35 : decode cX8_deedsIn 35 = .ok (.istore_n 2, 1) := by decide +kernel
theorem dX8_deedsIn_36 : decode cX8_deedsIn 36 = .ok (.iinc 3 1, 3) := by decide +kernel
theorem dX8_deedsIn_39 : decode cX8_deedsIn 39 = .ok (.goto (-35), 3) := by decide +kernel
theorem dX8_deedsIn_42 : decode cX8_deedsIn 42 = .ok (.iload_n 2, 1) := by decide +kernel
theorem dX8_deedsIn_43 : decode cX8_deedsIn 43 = .ok (.ireturn, 1) := by decide +kernel
theorem dX8_flatOf_0 : decode cX8_flatOf 0 = .ok (.iconst 0, 1) := by decide +kernel
theorem dX8_flatOf_1 : decode cX8_flatOf 1 = .ok (.istore_n 2, 1) := by decide +kernel
theorem dX8_flatOf_2 : decode cX8_flatOf 2 = .ok (.iconst 0, 1) := by decide +kernel
theorem dX8_flatOf_3 : decode cX8_flatOf 3 = .ok (.istore_n 3, 1) := by decide +kernel
theorem dX8_flatOf_4 : decode cX8_flatOf 4 = .ok (.iload_n 3, 1) := by decide +kernel
theorem dX8_flatOf_5 : decode cX8_flatOf 5 = .ok (.aload_n 0, 1) := by decide +kernel
theorem dX8_flatOf_6 : decode cX8_flatOf 6 = .ok (.getfield 21, 3) := by decide +kernel
theorem dX8_flatOf_9 : decode cX8_flatOf 9 = .ok (.if_icmp .ge 39, 3) := by decide +kernel
theorem dX8_flatOf_12 : decode cX8_flatOf 12 = .ok (.aload_n 0, 1) := by decide +kernel
theorem dX8_flatOf_13 : decode cX8_flatOf 13 = .ok (.getfield 41, 3) := by decide +kernel
theorem dX8_flatOf_16 : decode cX8_flatOf 16 = .ok (.iload_n 3, 1) := by decide +kernel
theorem dX8_flatOf_17 : decode cX8_flatOf 17 = .ok (.aaload, 1) := by decide +kernel
theorem dX8_flatOf_18 : decode cX8_flatOf 18 = .ok (.getfield 165, 3) := by decide +kernel
theorem dX8_flatOf_21 : decode cX8_flatOf 21 = .ok (.iload_n 1, 1) := by decide +kernel
theorem dX8_flatOf_22 : decode cX8_flatOf 22 = .ok (.if_icmp .ne 20, 3) := by decide +kernel
theorem dX8_flatOf_25 : decode cX8_flatOf 25 = .ok (.iload_n 2, 1) := by decide +kernel
theorem dX8_flatOf_26 : decode cX8_flatOf 26 = .ok (.aload_n 0, 1) := by decide +kernel
theorem dX8_flatOf_27 : decode cX8_flatOf 27 = .ok (.getfield 63, 3) := by decide +kernel
theorem dX8_flatOf_30 : decode cX8_flatOf 30 = .ok (.aload_n 0, 1) := by decide +kernel
theorem dX8_flatOf_31 : decode cX8_flatOf 31 = .ok (.getfield 41, 3) := by decide +kernel
theorem dX8_flatOf_34 : decode cX8_flatOf 34 = .ok (.iload_n 3, 1) := by decide +kernel
theorem dX8_flatOf_35 : decode cX8_flatOf 35 = .ok (.aaload, 1) := by decide +kernel
theorem dX8_flatOf_36 : decode cX8_flatOf 36 = .ok (.getfield 188, 3) := by decide +kernel
theorem dX8_flatOf_39 : decode cX8_flatOf 39 = .ok (.iaload, 1) := by decide +kernel
theorem dX8_flatOf_40 : decode cX8_flatOf 40 = .ok (.iadd, 1) := by decide +kernel
theorem dX8_flatOf_41 : decode cX8_flatOf 41 = .ok (.istore_n 2, 1) := by decide +kernel
theorem dX8_flatOf_42 : decode cX8_flatOf 42 = .ok (.iinc 3 1, 3) := by decide +kernel
theorem dX8_flatOf_45 : decode cX8_flatOf 45 = .ok (.goto (-41), 3) := by decide +kernel
theorem dX8_flatOf_48 : decode cX8_flatOf 48 = .ok (.iload_n 2, 1) := by decide +kernel
theorem dX8_flatOf_49 : decode cX8_flatOf 49 = .ok (.ireturn, 1) := by decide +kernel
theorem dX8_shareOf_0 : decode cX8_shareOf 0 = .ok (.aload_n 0, 1) := by decide +kernel
theorem dX8_shareOf_1 : decode cX8_shareOf 1 = .ok (.getfield 47, 3) := by decide +kernel
theorem dX8_shareOf_4 : decode cX8_shareOf 4 = .ok (.iload_n 1, 1) := by decide +kernel
theorem dX8_shareOf_5 : decode cX8_shareOf 5 = .ok (.aaload, 1) := by decide +kernel
theorem dX8_shareOf_6 : decode cX8_shareOf 6 = .ok (.astore_n 3, 1) := by decide +kernel
theorem dX8_shareOf_7 : decode cX8_shareOf 7 = .ok (.iconst 1, 1) := by decide +kernel
theorem dX8_shareOf_8 : decode cX8_shareOf 8 = .ok (.aload_n 0, 1) := by decide +kernel
theorem dX8_shareOf_9 : decode cX8_shareOf 9 = .ok (.aload_n 3, 1) := by decide +kernel
theorem dX8_shareOf_10 : decode cX8_shareOf 10 = .ok (.getfield 172, 3) := by decide +kernel
theorem dX8_shareOf_13 : decode cX8_shareOf 13 = .ok (.aload_n 3, 1) := by decide +kernel
theorem dX8_shareOf_14 : decode cX8_shareOf 14 = .ok (.getfield 171, 3) := by decide +kernel
theorem dX8_shareOf_17 : decode cX8_shareOf 17 = .ok (.aload_n 3, 1) := by decide +kernel
theorem dX8_shareOf_18 : decode cX8_shareOf 18 = .ok (.getfield 171, 3) := by decide +kernel
theorem dX8_shareOf_21 : decode cX8_shareOf 21 = .ok (.invokevirtual 202, 3) := by decide +kernel
theorem dX8_shareOf_24 : decode cX8_shareOf 24 = .ok (.invokestatic 142, 3) := by decide +kernel
theorem dX8_shareOf_27 : decode cX8_shareOf 27 = .ok (.istore 4, 2) := by decide +kernel
theorem dX8_shareOf_29 : decode cX8_shareOf 29 = .ok (.iload_n 2, 1) := by decide +kernel
theorem dX8_shareOf_30 : decode cX8_shareOf 30 = .ok (.i2l, 1) := by decide +kernel
theorem dX8_shareOf_31 : decode cX8_shareOf 31 = .ok (.ldc2_w 218, 3) := by decide +kernel
theorem dX8_shareOf_34 : decode cX8_shareOf 34 = .ok (.lmul, 1) := by decide +kernel
theorem dX8_shareOf_35 : decode cX8_shareOf 35 = .ok (.iload 4, 2) := by decide +kernel
theorem dX8_shareOf_37 : decode cX8_shareOf 37 = .ok (.i2l, 1) := by decide +kernel
theorem dX8_shareOf_38 : decode cX8_shareOf 38 = .ok (.ldiv, 1) := by decide +kernel
theorem dX8_shareOf_39 : decode cX8_shareOf 39 = .ok (.ldc2_w 220, 3) := by decide +kernel
theorem dX8_shareOf_42 : decode cX8_shareOf 42 = .ok (.invokestatic 222, 3) := by decide +kernel
theorem dX8_shareOf_45 : decode cX8_shareOf 45 = .ok (.l2i, 1) := by decide +kernel
theorem dX8_shareOf_46 : decode cX8_shareOf 46 = .ok (.ireturn, 1) := by decide +kernel
theorem dX8_areAlike_0 : decode cX8_areAlike 0 = .ok (.aload_n 0, 1) := by decide +kernel
theorem dX8_areAlike_1 : decode cX8_areAlike 1 = .ok (.aload_n 0, 1) := by decide +kernel
theorem dX8_areAlike_2 : decode cX8_areAlike 2 = .ok (.getfield 47, 3) := by decide +kernel
theorem dX8_areAlike_5 : decode cX8_areAlike 5 = .ok (.iload_n 1, 1) := by decide +kernel
theorem dX8_areAlike_6 : decode cX8_areAlike 6 = .ok (.aaload, 1) := by decide +kernel
theorem dX8_areAlike_7 : decode cX8_areAlike 7 = .ok (.getfield 172, 3) := by decide +kernel
theorem dX8_areAlike_10 : decode cX8_areAlike 10 = .ok (.invokevirtual 191, 3) := by decide +kernel
theorem dX8_areAlike_13 : decode cX8_areAlike 13 = .ok (.aload_n 0, 1) := by decide +kernel
theorem dX8_areAlike_14 : decode cX8_areAlike 14 = .ok (.aload_n 0, 1) := by decide +kernel
theorem dX8_areAlike_15 : decode cX8_areAlike 15 = .ok (.getfield 47, 3) := by decide +kernel
theorem dX8_areAlike_18 : decode cX8_areAlike 18 = .ok (.iload_n 2, 1) := by decide +kernel
theorem dX8_areAlike_19 : decode cX8_areAlike 19 = .ok (.aaload, 1) := by decide +kernel
theorem dX8_areAlike_20 : decode cX8_areAlike 20 = .ok (.getfield 172, 3) := by decide +kernel
theorem dX8_areAlike_23 : decode cX8_areAlike 23 = .ok (.invokevirtual 191, 3) := by decide +kernel
theorem dX8_areAlike_26 : decode cX8_areAlike 26 = .ok (.if_icmp .eq 5, 3) := by decide +kernel
theorem dX8_areAlike_29 : decode cX8_areAlike 29 = .ok (.iconst 0, 1) := by decide +kernel
theorem dX8_areAlike_30 : decode cX8_areAlike 30 = .ok (.ireturn, 1) := by decide +kernel
theorem dX8_areAlike_31 : decode cX8_areAlike 31 = .ok (.iconst 0, 1) := by decide +kernel
theorem dX8_areAlike_32 : decode cX8_areAlike 32 = .ok (.istore_n 3, 1) := by decide +kernel
theorem dX8_areAlike_33 : decode cX8_areAlike 33 = .ok (.iconst 0, 1) := by decide +kernel
theorem dX8_areAlike_34 : decode cX8_areAlike 34 = .ok (.istore 4, 2) := by decide +kernel
theorem dX8_areAlike_36 : decode cX8_areAlike 36 = .ok (.iload 4, 2) := by decide +kernel
theorem dX8_areAlike_38 : decode cX8_areAlike 38 = .ok (.iconst 4, 1) := by decide +kernel
theorem dX8_areAlike_39 : decode cX8_areAlike 39 = .ok (.if_icmp .ge 125, 3) := by decide +kernel
theorem dX8_areAlike_42 : decode cX8_areAlike 42 = .ok (.iconst 0, 1) := by decide +kernel
theorem dX8_areAlike_43 : decode cX8_areAlike 43 = .ok (.istore 5, 2) := by decide +kernel
theorem dX8_areAlike_45 : decode cX8_areAlike 45 = .ok (.iconst 0, 1) := by decide +kernel
theorem dX8_areAlike_46 : decode cX8_areAlike 46 = .ok (.istore 6, 2) := by decide +kernel
theorem dX8_areAlike_48 : decode cX8_areAlike 48 = .ok (.iload 6, 2) := by decide +kernel
theorem dX8_areAlike_50 : decode cX8_areAlike 50 = .ok (.aload_n 0, 1) := by decide +kernel
theorem dX8_areAlike_51 : decode cX8_areAlike 51 = .ok (.getfield 21, 3) := by decide +kernel
theorem dX8_areAlike_54 : decode cX8_areAlike 54 = .ok (.if_icmp .ge 97, 3) := by decide +kernel
theorem dX8_areAlike_57 : decode cX8_areAlike 57 = .ok (.aload_n 0, 1) := by decide +kernel
theorem dX8_areAlike_58 : decode cX8_areAlike 58 = .ok (.getfield 41, 3) := by decide +kernel
theorem dX8_areAlike_61 : decode cX8_areAlike 61 = .ok (.iload 6, 2) := by decide +kernel
theorem dX8_areAlike_63 : decode cX8_areAlike 63 = .ok (.aaload, 1) := by decide +kernel
theorem dX8_areAlike_64 : decode cX8_areAlike 64 = .ok (.getfield 188, 3) := by decide +kernel
theorem dX8_areAlike_67 : decode cX8_areAlike 67 = .ok (.iload 4, 2) := by decide +kernel
theorem dX8_areAlike_69 : decode cX8_areAlike 69 = .ok (.if_icmp .eq 6, 3) := by decide +kernel
theorem dX8_areAlike_72 : decode cX8_areAlike 72 = .ok (.goto 73, 3) := by decide +kernel
theorem dX8_areAlike_75 : decode cX8_areAlike 75 = .ok (.aload_n 0, 1) := by decide +kernel
theorem dX8_areAlike_76 : decode cX8_areAlike 76 = .ok (.getfield 41, 3) := by decide +kernel
theorem dX8_areAlike_79 : decode cX8_areAlike 79 = .ok (.iload 6, 2) := by decide +kernel
theorem dX8_areAlike_81 : decode cX8_areAlike 81 = .ok (.aaload, 1) := by decide +kernel
theorem dX8_areAlike_82 : decode cX8_areAlike 82 = .ok (.getfield 165, 3) := by decide +kernel
theorem dX8_areAlike_85 : decode cX8_areAlike 85 = .ok (.iload_n 1, 1) := by decide +kernel
theorem dX8_areAlike_86 : decode cX8_areAlike 86 = .ok (.if_icmp .ne 7, 3) := by decide +kernel
theorem dX8_areAlike_89 : decode cX8_areAlike 89 = .ok (.iconst 1, 1) := by decide +kernel
theorem dX8_areAlike_90 : decode cX8_areAlike 90 = .ok (.goto 4, 3) := by decide +kernel
theorem dX8_areAlike_93 : decode cX8_areAlike 93 = .ok (.iconst 0, 1) := by decide +kernel
theorem dX8_areAlike_94 : decode cX8_areAlike 94 = .ok (.invokestatic 152, 3) := by decide +kernel
theorem dX8_areAlike_97 : decode cX8_areAlike 97 = .ok (.aload_n 0, 1) := by decide +kernel
theorem dX8_areAlike_98 : decode cX8_areAlike 98 = .ok (.getfield 41, 3) := by decide +kernel
theorem dX8_areAlike_101 : decode cX8_areAlike 101 = .ok (.iload 6, 2) := by decide +kernel
theorem dX8_areAlike_103 : decode cX8_areAlike 103 = .ok (.aaload, 1) := by decide +kernel
theorem dX8_areAlike_104 : decode cX8_areAlike 104 = .ok (.getfield 165, 3) := by decide +kernel
theorem dX8_areAlike_107 : decode cX8_areAlike 107 = .ok (.iload_n 2, 1) := by decide +kernel
theorem dX8_areAlike_108 : decode cX8_areAlike 108 = .ok (.if_icmp .ne 7, 3) := by decide +kernel
theorem dX8_areAlike_111 : decode cX8_areAlike 111 = .ok (.iconst 1, 1) := by decide +kernel
theorem dX8_areAlike_112 : decode cX8_areAlike 112 = .ok (.goto 4, 3) := by decide +kernel
theorem dX8_areAlike_115 : decode cX8_areAlike 115 = .ok (.iconst 0, 1) := by decide +kernel
theorem dX8_areAlike_116 : decode cX8_areAlike 116 = .ok (.invokestatic 152, 3) := by decide +kernel
theorem dX8_areAlike_119 : decode cX8_areAlike 119 = .ok (.isub, 1) := by decide +kernel
theorem dX8_areAlike_120 : decode cX8_areAlike 120 = .ok (.istore 7, 2) := by decide +kernel
theorem dX8_areAlike_122 : decode cX8_areAlike 122 = .ok (.iload 5, 2) := by decide +kernel
theorem dX8_areAlike_124 : decode cX8_areAlike 124 = .ok (.iload 7, 2) := by decide +kernel
theorem dX8_areAlike_126 : decode cX8_areAlike 126 = .ok (.iadd, 1) := by decide +kernel
theorem dX8_areAlike_127 : decode cX8_areAlike 127 = .ok (.istore 5, 2) := by decide +kernel
theorem dX8_areAlike_129 : decode cX8_areAlike 129 = .ok (.iload_n 3, 1) := by decide +kernel
theorem dX8_areAlike_130 : decode cX8_areAlike 130 = .ok (.iload 7, 2) := by decide +kernel
theorem dX8_areAlike_132 : decode cX8_areAlike 132 = .ok (.aload_n 0, 1) := by decide +kernel
theorem dX8_areAlike_133 : decode cX8_areAlike 133 = .ok (.getfield 41, 3) := by decide +kernel
theorem dX8_areAlike_136 : decode cX8_areAlike 136 = .ok (.iload 6, 2) := by decide +kernel
theorem dX8_areAlike_138 : decode cX8_areAlike 138 = .ok (.aaload, 1) := by decide +kernel
theorem dX8_areAlike_139 : decode cX8_areAlike 139 = .ok (.getfield 176, 3) := by decide +kernel
theorem dX8_areAlike_142 : decode cX8_areAlike 142 = .ok (.imul, 1) := by decide +kernel
theorem dX8_areAlike_143 : decode cX8_areAlike 143 = .ok (.iadd, 1) := by decide +kernel
theorem dX8_areAlike_144 : decode cX8_areAlike 144 = .ok (.istore_n 3, 1) := by decide +kernel
theorem dX8_areAlike_145 : decode cX8_areAlike 145 = .ok (.iinc 6 1, 3) := by decide +kernel
theorem dX8_areAlike_148 : decode cX8_areAlike 148 = .ok (.goto (-100), 3) := by decide +kernel
theorem dX8_areAlike_151 : decode cX8_areAlike 151 = .ok (.iload 5, 2) := by decide +kernel
theorem dX8_areAlike_153 : decode cX8_areAlike 153 = .ok (.ifCond .eq 5, 3) := by decide +kernel
theorem dX8_areAlike_156 : decode cX8_areAlike 156 = .ok (.iconst 0, 1) := by decide +kernel
theorem dX8_areAlike_157 : decode cX8_areAlike 157 = .ok (.ireturn, 1) := by decide +kernel
theorem dX8_areAlike_158 : decode cX8_areAlike 158 = .ok (.iinc 4 1, 3) := by decide +kernel
theorem dX8_areAlike_161 : decode cX8_areAlike 161 = .ok (.goto (-125), 3) := by decide +kernel
theorem dX8_areAlike_164 : decode cX8_areAlike 164 = .ok (.iload_n 3, 1) := by decide +kernel
theorem dX8_areAlike_165 : decode cX8_areAlike 165 = .ok (.invokestatic 225, 3) := by decide +kernel
theorem dX8_areAlike_168 : decode cX8_areAlike 168 = .ok (.iconst 5, 1) := by decide +kernel
theorem dX8_areAlike_169 : decode cX8_areAlike 169 = .ok (.if_icmp .gt 7, 3) := by decide +kernel
theorem dX8_areAlike_172 : decode cX8_areAlike 172 = .ok (.iconst 1, 1) := by decide +kernel
theorem dX8_areAlike_173 : decode cX8_areAlike 173 = .ok (.goto 4, 3) := by decide +kernel
theorem dX8_areAlike_176 : decode cX8_areAlike 176 = .ok (.iconst 0, 1) := by decide +kernel
theorem dX8_areAlike_177 : decode cX8_areAlike 177 = .ok (.ireturn, 1) := by decide +kernel
theorem dX8_roomOf_0 : decode cX8_roomOf 0 = .ok (.aload_n 0, 1) := by decide +kernel
theorem dX8_roomOf_1 : decode cX8_roomOf 1 = .ok (.getfield 9, 3) := by decide +kernel
theorem dX8_roomOf_4 : decode cX8_roomOf 4 = .ok (.bipush 30, 2) := by decide +kernel
theorem dX8_roomOf_6 : decode cX8_roomOf 6 = .ok (.iload_n 2, 1) := by decide +kernel
theorem dX8_roomOf_7 : decode cX8_roomOf 7 = .ok (.imul, 1) := by decide +kernel
theorem dX8_roomOf_8 : decode cX8_roomOf 8 = .ok (.iadd, 1) := by decide +kernel
theorem dX8_roomOf_9 : decode cX8_roomOf 9 = .ok (.istore_n 3, 1) := by decide +kernel
theorem dX8_roomOf_10 : decode cX8_roomOf 10 = .ok (.aload_n 0, 1) := by decide +kernel
theorem dX8_roomOf_11 : decode cX8_roomOf 11 = .ok (.getfield 60, 3) := by decide +kernel
theorem dX8_roomOf_14 : decode cX8_roomOf 14 = .ok (.bipush 13, 2) := by decide +kernel
theorem dX8_roomOf_16 : decode cX8_roomOf 16 = .ok (.iaload, 1) := by decide +kernel
theorem dX8_roomOf_17 : decode cX8_roomOf 17 = .ok (.iconst 1, 1) := by decide +kernel
theorem dX8_roomOf_18 : decode cX8_roomOf 18 = .ok (.aload_n 0, 1) := by decide +kernel
theorem dX8_roomOf_19 : decode cX8_roomOf 19 = .ok (.iload_n 1, 1) := by decide +kernel
theorem dX8_roomOf_20 : decode cX8_roomOf 20 = .ok (.iconst 1, 1) := by decide +kernel
theorem dX8_roomOf_21 : decode cX8_roomOf 21 = .ok (.iload_n 3, 1) := by decide +kernel
theorem dX8_roomOf_22 : decode cX8_roomOf 22 = .ok (.aload_n 0, 1) := by decide +kernel
theorem dX8_roomOf_23 : decode cX8_roomOf 23 = .ok (.getfield 9, 3) := by decide +kernel
theorem dX8_roomOf_26 : decode cX8_roomOf 26 = .ok (.invokevirtual 135, 3) := by decide +kernel
theorem dX8_roomOf_29 : decode cX8_roomOf 29 = .ok (.iadd, 1) := by decide +kernel
theorem dX8_roomOf_30 : decode cX8_roomOf 30 = .ok (.imul, 1) := by decide +kernel
theorem dX8_roomOf_31 : decode cX8_roomOf 31 = .ok (.istore 4, 2) := by decide +kernel
theorem dX8_roomOf_33 : decode cX8_roomOf 33 = .ok (.aload_n 0, 1) := by decide +kernel
theorem dX8_roomOf_34 : decode cX8_roomOf 34 = .ok (.iload_n 1, 1) := by decide +kernel
theorem dX8_roomOf_35 : decode cX8_roomOf 35 = .ok (.iload_n 3, 1) := by decide +kernel
theorem dX8_roomOf_36 : decode cX8_roomOf 36 = .ok (.aload_n 0, 1) := by decide +kernel
theorem dX8_roomOf_37 : decode cX8_roomOf 37 = .ok (.getfield 9, 3) := by decide +kernel
theorem dX8_roomOf_40 : decode cX8_roomOf 40 = .ok (.invokevirtual 202, 3) := by decide +kernel
theorem dX8_roomOf_43 : decode cX8_roomOf 43 = .ok (.iload 4, 2) := by decide +kernel
theorem dX8_roomOf_45 : decode cX8_roomOf 45 = .ok (.isub, 1) := by decide +kernel
theorem dX8_roomOf_46 : decode cX8_roomOf 46 = .ok (.aload_n 0, 1) := by decide +kernel
theorem dX8_roomOf_47 : decode cX8_roomOf 47 = .ok (.iload_n 1, 1) := by decide +kernel
theorem dX8_roomOf_48 : decode cX8_roomOf 48 = .ok (.iconst 3, 1) := by decide +kernel
theorem dX8_roomOf_49 : decode cX8_roomOf 49 = .ok (.iload_n 3, 1) := by decide +kernel
theorem dX8_roomOf_50 : decode cX8_roomOf 50 = .ok (.aload_n 0, 1) := by decide +kernel
theorem dX8_roomOf_51 : decode cX8_roomOf 51 = .ok (.getfield 9, 3) := by decide +kernel
theorem dX8_roomOf_54 : decode cX8_roomOf 54 = .ok (.invokevirtual 135, 3) := by decide +kernel
theorem dX8_roomOf_57 : decode cX8_roomOf 57 = .ok (.isub, 1) := by decide +kernel
theorem dX8_roomOf_58 : decode cX8_roomOf 58 = .ok (.istore 5, 2) := by decide +kernel
theorem dX8_roomOf_60 : decode cX8_roomOf 60 = .ok (.iconst 0, 1) := by decide +kernel
theorem dX8_roomOf_61 : decode cX8_roomOf 61 = .ok (.iload 5, 2) := by decide +kernel
theorem dX8_roomOf_63 : decode cX8_roomOf 63 = .ok (.invokestatic 142, 3) := by decide +kernel
theorem dX8_roomOf_66 : decode cX8_roomOf 66 = .ok (.aload_n 0, 1) := by decide +kernel
theorem dX8_roomOf_67 : decode cX8_roomOf 67 = .ok (.getfield 60, 3) := by decide +kernel
theorem dX8_roomOf_70 : decode cX8_roomOf 70 = .ok (.bipush 14, 2) := by decide +kernel
theorem dX8_roomOf_72 : decode cX8_roomOf 72 = .ok (.iaload, 1) := by decide +kernel
theorem dX8_roomOf_73 : decode cX8_roomOf 73 = .ok (.imul, 1) := by decide +kernel
theorem dX8_roomOf_74 : decode cX8_roomOf 74 = .ok (.bipush 100, 2) := by decide +kernel
theorem dX8_roomOf_76 : decode cX8_roomOf 76 = .ok (.idiv, 1) := by decide +kernel
theorem dX8_roomOf_77 : decode cX8_roomOf 77 = .ok (.ireturn, 1) := by decide +kernel
theorem dJ9_abs_0f7a4_0 : decode cJ9_abs_0f7a4 0 = .ok (.iload_n 0, 1) := by decide +kernel
theorem dJ9_abs_0f7a4_1 : decode cJ9_abs_0f7a4 1 = .ok (.ifCond .ge 8, 3) := by decide +kernel
theorem dJ9_abs_0f7a4_4 : decode cJ9_abs_0f7a4 4 = .ok (.iload_n 0, 1) := by decide +kernel
theorem dJ9_abs_0f7a4_5 : decode cJ9_abs_0f7a4 5 = .ok (.ineg, 1) := by decide +kernel
theorem dJ9_abs_0f7a4_6 : decode cJ9_abs_0f7a4 6 = .ok (.goto 4, 3) := by decide +kernel
theorem dJ9_abs_0f7a4_9 : decode cJ9_abs_0f7a4 9 = .ok (.iload_n 0, 1) := by decide +kernel
theorem dJ9_abs_0f7a4_10 : decode cJ9_abs_0f7a4 10 = .ok (.ireturn, 1) := by decide +kernel
theorem dJ9_abs_067f4_0 : decode cJ9_abs_067f4 0 = .ok (.lload_n 0, 1) := by decide +kernel
theorem dJ9_abs_067f4_1 : decode cJ9_abs_067f4 1 = .ok (.lconst 0, 1) := by decide +kernel
theorem dJ9_abs_067f4_2 : decode cJ9_abs_067f4 2 = .ok (.lcmp, 1) := by decide +kernel
theorem dJ9_abs_067f4_3 : decode cJ9_abs_067f4 3 = .ok (.ifCond .ge 8, 3) := by decide +kernel
theorem dJ9_abs_067f4_6 : decode cJ9_abs_067f4 6 = .ok (.lload_n 0, 1) := by decide +kernel
theorem dJ9_abs_067f4_7 : decode cJ9_abs_067f4 7 = .ok (.lneg, 1) := by decide +kernel
theorem dJ9_abs_067f4_8 : decode cJ9_abs_067f4 8 = .ok (.goto 4, 3) := by decide +kernel
theorem dJ9_abs_067f4_11 : decode cJ9_abs_067f4 11 = .ok (.lload_n 0, 1) := by decide +kernel
theorem dJ9_abs_067f4_12 : decode cJ9_abs_067f4 12 = .ok (.lreturn, 1) := by decide +kernel
theorem dJ9_max_7cf53_0 : decode cJ9_max_7cf53 0 = .ok (.iload_n 0, 1) := by decide +kernel
theorem dJ9_max_7cf53_1 : decode cJ9_max_7cf53 1 = .ok (.iload_n 1, 1) := by decide +kernel
theorem dJ9_max_7cf53_2 : decode cJ9_max_7cf53 2 = .ok (.if_icmp .lt 7, 3) := by decide +kernel
theorem dJ9_max_7cf53_5 : decode cJ9_max_7cf53 5 = .ok (.iload_n 0, 1) := by decide +kernel
theorem dJ9_max_7cf53_6 : decode cJ9_max_7cf53 6 = .ok (.goto 4, 3) := by decide +kernel
theorem dJ9_max_7cf53_9 : decode cJ9_max_7cf53 9 = .ok (.iload_n 1, 1) := by decide +kernel
theorem dJ9_max_7cf53_10 : decode cJ9_max_7cf53 10 = .ok (.ireturn, 1) := by decide +kernel
theorem dJ9_min_7cf53_0 : decode cJ9_min_7cf53 0 = .ok (.iload_n 0, 1) := by decide +kernel
theorem dJ9_min_7cf53_1 : decode cJ9_min_7cf53 1 = .ok (.iload_n 1, 1) := by decide +kernel
theorem dJ9_min_7cf53_2 : decode cJ9_min_7cf53 2 = .ok (.if_icmp .gt 7, 3) := by decide +kernel
theorem dJ9_min_7cf53_5 : decode cJ9_min_7cf53 5 = .ok (.iload_n 0, 1) := by decide +kernel
theorem dJ9_min_7cf53_6 : decode cJ9_min_7cf53 6 = .ok (.goto 4, 3) := by decide +kernel
theorem dJ9_min_7cf53_9 : decode cJ9_min_7cf53 9 = .ok (.iload_n 1, 1) := by decide +kernel
theorem dJ9_min_7cf53_10 : decode cJ9_min_7cf53 10 = .ok (.ireturn, 1) := by decide +kernel
theorem dJ9_min_f86c9_0 : decode cJ9_min_f86c9 0 = .ok (.lload_n 0, 1) := by decide +kernel
theorem dJ9_min_f86c9_1 : decode cJ9_min_f86c9 1 = .ok (.lload_n 2, 1) := by decide +kernel
theorem dJ9_min_f86c9_2 : decode cJ9_min_f86c9 2 = .ok (.lcmp, 1) := by decide +kernel
theorem dJ9_min_f86c9_3 : decode cJ9_min_f86c9 3 = .ok (.ifCond .gt 7, 3) := by decide +kernel
theorem dJ9_min_f86c9_6 : decode cJ9_min_f86c9 6 = .ok (.lload_n 0, 1) := by decide +kernel
theorem dJ9_min_f86c9_7 : decode cJ9_min_f86c9 7 = .ok (.goto 4, 3) := by decide +kernel
theorem dJ9_min_f86c9_10 : decode cJ9_min_f86c9 10 = .ok (.lload_n 2, 1) := by decide +kernel
theorem dJ9_min_f86c9_11 : decode cJ9_min_f86c9 11 = .ok (.lreturn, 1) := by decide +kernel
theorem dJ0_length_8abf5_0 : decode cJ0_length_8abf5 0 = .ok (.aload_n 0, 1) := by decide +kernel
theorem dJ0_length_8abf5_1 : decode cJ0_length_8abf5 1 = .ok (.getfield 9, 3) := by decide +kernel
theorem dJ0_length_8abf5_4 : decode cJ0_length_8abf5 4 = .ok (.arraylength, 1) := by decide +kernel
theorem dJ0_length_8abf5_5 : decode cJ0_length_8abf5 5 = .ok (.aload_n 0, 1) := by decide +kernel
theorem dJ0_length_8abf5_6 : decode cJ0_length_8abf5 6 = .ok (.invokevirtual 335, 3) := by decide +kernel
theorem dJ0_length_8abf5_9 : decode cJ0_length_8abf5 9 = .ok (.ishr, 1) := by decide +kernel
theorem dJ0_length_8abf5_10 : decode cJ0_length_8abf5 10 = .ok (.ireturn, 1) := by decide +kernel
theorem dJ0_charAt_5068e_0 : decode cJ0_charAt_5068e 0 = .ok (.aload_n 0, 1) := by decide +kernel
theorem dJ0_charAt_5068e_1 : decode cJ0_charAt_5068e 1 = .ok (.invokevirtual 492, 3) := by decide +kernel
theorem dJ0_charAt_5068e_4 : decode cJ0_charAt_5068e 4 = .ok (.ifCond .eq 12, 3) := by decide +kernel
theorem dJ0_charAt_5068e_7 : decode cJ0_charAt_5068e 7 = .ok (.aload_n 0, 1) := by decide +kernel
theorem dJ0_charAt_5068e_8 : decode cJ0_charAt_5068e 8 = .ok (.getfield 9, 3) := by decide +kernel
theorem dJ0_charAt_5068e_11 : decode cJ0_charAt_5068e 11 = .ok (.iload_n 1, 1) := by decide +kernel
theorem dJ0_charAt_5068e_12 : decode cJ0_charAt_5068e 12 = .ok (.invokestatic 495, 3) := by decide +kernel
theorem dJ0_charAt_5068e_15 : decode cJ0_charAt_5068e 15 = .ok (.ireturn, 1) := by decide +kernel
theorem dJ0_charAt_5068e_16 : decode cJ0_charAt_5068e 16 = .ok (.aload_n 0, 1) := by decide +kernel
theorem dJ0_charAt_5068e_17 : decode cJ0_charAt_5068e 17 = .ok (.getfield 9, 3) := by decide +kernel
theorem dJ0_charAt_5068e_20 : decode cJ0_charAt_5068e 20 = .ok (.iload_n 1, 1) := by decide +kernel
theorem dJ0_charAt_5068e_21 : decode cJ0_charAt_5068e 21 = .ok (.invokestatic 498, 3) := by decide +kernel
theorem dJ0_charAt_5068e_24 : decode cJ0_charAt_5068e 24 = .ok (.ireturn, 1) := by decide +kernel
theorem dJ0_indexOf_0f7a4_0 : decode cJ0_indexOf_0f7a4 0 = .ok (.aload_n 0, 1) := by decide +kernel
theorem dJ0_indexOf_0f7a4_1 : decode cJ0_indexOf_0f7a4 1 = .ok (.iload_n 1, 1) := by decide +kernel
theorem dJ0_indexOf_0f7a4_2 : decode cJ0_indexOf_0f7a4 2 = .ok (.iconst 0, 1) := by decide +kernel
theorem dJ0_indexOf_0f7a4_3 : decode cJ0_indexOf_0f7a4 3 = .ok (.invokevirtual 633, 3) := by decide +kernel
theorem dJ0_indexOf_0f7a4_6 : decode cJ0_indexOf_0f7a4 6 = .ok (.ireturn, 1) := by decide +kernel
theorem dJ0_indexOf_7cf53_0 : decode cJ0_indexOf_7cf53 0 = .ok (.aload_n 0, 1) := by decide +kernel
theorem dJ0_indexOf_7cf53_1 : decode cJ0_indexOf_7cf53 1 = .ok (.invokevirtual 492, 3) := by decide +kernel
theorem dJ0_indexOf_7cf53_4 : decode cJ0_indexOf_7cf53 4 = .ok (.ifCond .eq 19, 3) := by decide +kernel
theorem dJ0_indexOf_7cf53_7 : decode cJ0_indexOf_7cf53 7 = .ok (.aload_n 0, 1) := by decide +kernel
theorem dJ0_indexOf_7cf53_8 : decode cJ0_indexOf_7cf53 8 = .ok (.getfield 9, 3) := by decide +kernel
theorem dJ0_indexOf_7cf53_11 : decode cJ0_indexOf_7cf53 11 = .ok (.iload_n 1, 1) := by decide +kernel
theorem dJ0_indexOf_7cf53_12 : decode cJ0_indexOf_7cf53 12 = .ok (.iload_n 2, 1) := by decide +kernel
theorem dJ0_indexOf_7cf53_13 : decode cJ0_indexOf_7cf53 13 = .ok (.aload_n 0, 1) := by decide +kernel
theorem dJ0_indexOf_7cf53_14 : decode cJ0_indexOf_7cf53 14 = .ok (.invokevirtual 505, 3) := by decide +kernel
theorem dJ0_indexOf_7cf53_17 : decode cJ0_indexOf_7cf53 17 = .ok (.invokestatic 637, 3) := by decide +kernel
theorem dJ0_indexOf_7cf53_20 : decode cJ0_indexOf_7cf53 20 = .ok (.goto 16, 3) := by decide +kernel
theorem dJ0_indexOf_7cf53_23 : decode cJ0_indexOf_7cf53 23 = .ok (.aload_n 0, 1) := by decide +kernel
theorem dJ0_indexOf_7cf53_24 : decode cJ0_indexOf_7cf53 24 = .ok (.getfield 9, 3) := by decide +kernel
theorem dJ0_indexOf_7cf53_27 : decode cJ0_indexOf_7cf53 27 = .ok (.iload_n 1, 1) := by decide +kernel
theorem dJ0_indexOf_7cf53_28 : decode cJ0_indexOf_7cf53 28 = .ok (.iload_n 2, 1) := by decide +kernel
theorem dJ0_indexOf_7cf53_29 : decode cJ0_indexOf_7cf53 29 = .ok (.aload_n 0, 1) := by decide +kernel
theorem dJ0_indexOf_7cf53_30 : decode cJ0_indexOf_7cf53 30 = .ok (.invokevirtual 505, 3) := by decide +kernel
theorem dJ0_indexOf_7cf53_33 : decode cJ0_indexOf_7cf53 33 = .ok (.invokestatic 640, 3) := by decide +kernel
theorem dJ0_indexOf_7cf53_36 : decode cJ0_indexOf_7cf53 36 = .ok (.ireturn, 1) := by decide +kernel
theorem dJ0_coder_7d493_0 : decode cJ0_coder_7d493 0 = .ok (.getstatic 38, 3) := by decide +kernel
theorem dJ0_coder_7d493_3 : decode cJ0_coder_7d493 3 = .ok (.ifCond .eq 10, 3) := by decide +kernel
theorem dJ0_coder_7d493_6 : decode cJ0_coder_7d493 6 = .ok (.aload_n 0, 1) := by decide +kernel
theorem dJ0_coder_7d493_7 : decode cJ0_coder_7d493 7 = .ok (.getfield 15, 3) := by decide +kernel
theorem dJ0_coder_7d493_10 : decode cJ0_coder_7d493 10 = .ok (.goto 4, 3) := by decide +kernel
theorem dJ0_coder_7d493_13 : decode cJ0_coder_7d493 13 = .ok (.iconst 1, 1) := by decide +kernel
theorem dJ0_coder_7d493_14 : decode cJ0_coder_7d493 14 = .ok (.ireturn, 1) := by decide +kernel
theorem dJ0_isLatin1_aae02_0 : decode cJ0_isLatin1_aae02 0 = .ok (.getstatic 38, 3) := by decide +kernel
theorem dJ0_isLatin1_aae02_3 : decode cJ0_isLatin1_aae02 3 = .ok (.ifCond .eq 14, 3) := by decide +kernel
theorem dJ0_isLatin1_aae02_6 : decode cJ0_isLatin1_aae02 6 = .ok (.aload_n 0, 1) := by decide +kernel
theorem dJ0_isLatin1_aae02_7 : decode cJ0_isLatin1_aae02 7 = .ok (.getfield 15, 3) := by decide +kernel
theorem dJ0_isLatin1_aae02_10 : decode cJ0_isLatin1_aae02 10 = .ok (.ifCond .ne 7, 3) := by decide +kernel
theorem dJ0_isLatin1_aae02_13 : decode cJ0_isLatin1_aae02 13 = .ok (.iconst 1, 1) := by decide +kernel
theorem dJ0_isLatin1_aae02_14 : decode cJ0_isLatin1_aae02 14 = .ok (.goto 4, 3) := by decide +kernel
theorem dJ0_isLatin1_aae02_17 : decode cJ0_isLatin1_aae02 17 = .ok (.iconst 0, 1) := by decide +kernel
theorem dJ0_isLatin1_aae02_18 : decode cJ0_isLatin1_aae02 18 = .ok (.ireturn, 1) := by decide +kernel
theorem dJ0_checkIndex_df160_0 : decode cJ0_checkIndex_df160 0 = .ok (.iload_n 0, 1) := by decide +kernel
theorem dJ0_checkIndex_df160_1 : decode cJ0_checkIndex_df160 1 = .ok (.iload_n 1, 1) := by decide +kernel
theorem dJ0_checkIndex_df160_2 : decode cJ0_checkIndex_df160 2 = .ok (.getstatic 1053, 3) := by decide +kernel
theorem dJ0_checkIndex_df160_5 : decode cJ0_checkIndex_df160 5 = .ok (.invokestatic 1059, 3) := by decide +kernel
theorem dJ0_checkIndex_df160_8 : decode cJ0_checkIndex_df160 8 = .ok (.pop, 1) := by decide +kernel
theorem dJ0_checkIndex_df160_9 : decode cJ0_checkIndex_df160 9 = .ok (.return_, 1) := by decide +kernel
theorem dJ0_checkBoundsBeginEnd_23922_0 : decode cJ0_checkBoundsBeginEnd_23922 0 = .ok (.iload_n 0, 1) := by decide +kernel
theorem dJ0_checkBoundsBeginEnd_23922_1 : decode cJ0_checkBoundsBeginEnd_23922 1 = .ok (.iload_n 1, 1) := by decide +kernel
theorem dJ0_checkBoundsBeginEnd_23922_2 : decode cJ0_checkBoundsBeginEnd_23922 2 = .ok (.iload_n 2, 1) := by decide +kernel
theorem dJ0_checkBoundsBeginEnd_23922_3 : decode cJ0_checkBoundsBeginEnd_23922 3 = .ok (.getstatic 1053, 3) := by decide +kernel
theorem dJ0_checkBoundsBeginEnd_23922_6 : decode cJ0_checkBoundsBeginEnd_23922 6 = .ok (.invokestatic 1062, 3) := by decide +kernel
theorem dJ0_checkBoundsBeginEnd_23922_9 : decode cJ0_checkBoundsBeginEnd_23922 9 = .ok (.pop, 1) := by decide +kernel
theorem dJ0_checkBoundsBeginEnd_23922_10 : decode cJ0_checkBoundsBeginEnd_23922 10 = .ok (.return_, 1) := by decide +kernel
theorem dJ1_charAt_3b067_0 : decode cJ1_charAt_3b067 0 = .ok (.iload_n 1, 1) := by decide +kernel
theorem dJ1_charAt_3b067_1 : decode cJ1_charAt_3b067 1 = .ok (.aload_n 0, 1) := by decide +kernel
theorem dJ1_charAt_3b067_2 : decode cJ1_charAt_3b067 2 = .ok (.arraylength, 1) := by decide +kernel
theorem dJ1_charAt_3b067_3 : decode cJ1_charAt_3b067 3 = .ok (.invokestatic 9, 3) := by decide +kernel
theorem dJ1_charAt_3b067_6 : decode cJ1_charAt_3b067 6 = .ok (.aload_n 0, 1) := by decide +kernel
theorem dJ1_charAt_3b067_7 : decode cJ1_charAt_3b067 7 = .ok (.iload_n 1, 1) := by decide +kernel
theorem dJ1_charAt_3b067_8 : decode cJ1_charAt_3b067 8 = .ok (.baload, 1) := by decide +kernel
theorem dJ1_charAt_3b067_9 : decode cJ1_charAt_3b067 9 = .ok (.sipush 255, 3) := by decide +kernel
theorem dJ1_charAt_3b067_12 : decode cJ1_charAt_3b067 12 = .ok (.iand, 1) := by decide +kernel
theorem dJ1_charAt_3b067_13 : decode cJ1_charAt_3b067 13 = .ok (.i2c, 1) := by decide +kernel
theorem dJ1_charAt_3b067_14 : decode cJ1_charAt_3b067 14 = .ok (.ireturn, 1) := by decide +kernel
theorem dJ1_canEncode_9a6ad_0 : decode cJ1_canEncode_9a6ad 0 = .ok (.iload_n 0, 1) := by decide +kernel
theorem dJ1_canEncode_9a6ad_1 : decode cJ1_canEncode_9a6ad 1 = .ok (.ifCond .lt 14, 3) := by decide +kernel
theorem dJ1_canEncode_9a6ad_4 : decode cJ1_canEncode_9a6ad 4 = .ok (.iload_n 0, 1) := by decide +kernel
theorem dJ1_canEncode_9a6ad_5 : decode cJ1_canEncode_9a6ad 5 = .ok (.sipush 255, 3) := by decide +kernel
theorem dJ1_canEncode_9a6ad_8 : decode cJ1_canEncode_9a6ad 8 = .ok (.if_icmp .gt 7, 3) := by decide +kernel
theorem dJ1_canEncode_9a6ad_11 : decode cJ1_canEncode_9a6ad 11 = .ok (.iconst 1, 1) := by decide +kernel
theorem dJ1_canEncode_9a6ad_12 : decode cJ1_canEncode_9a6ad 12 = .ok (.goto 4, 3) := by decide +kernel
theorem dJ1_canEncode_9a6ad_15 : decode cJ1_canEncode_9a6ad 15 = .ok (.iconst 0, 1) := by decide +kernel
theorem dJ1_canEncode_9a6ad_16 : decode cJ1_canEncode_9a6ad 16 = .ok (.ireturn, 1) := by decide +kernel
theorem dJ1_indexOf_4cfef_0 : decode cJ1_indexOf_4cfef 0 = .ok (.iload_n 1, 1) := by decide +kernel
theorem dJ1_indexOf_4cfef_1 : decode cJ1_indexOf_4cfef 1 = .ok (.invokestatic 88, 3) := by decide +kernel
theorem dJ1_indexOf_4cfef_4 : decode cJ1_indexOf_4cfef 4 = .ok (.ifCond .ne 5, 3) := by decide +kernel
theorem dJ1_indexOf_4cfef_7 : decode cJ1_indexOf_4cfef 7 = .ok (.iconst (-1), 1) := by decide +kernel
theorem dJ1_indexOf_4cfef_8 : decode cJ1_indexOf_4cfef 8 = .ok (.ireturn, 1) := by decide +kernel
theorem dJ1_indexOf_4cfef_9 : decode cJ1_indexOf_4cfef 9 = .ok (.iload_n 2, 1) := by decide +kernel
theorem dJ1_indexOf_4cfef_10 : decode cJ1_indexOf_4cfef 10 = .ok (.iconst 0, 1) := by decide +kernel
theorem dJ1_indexOf_4cfef_11 : decode cJ1_indexOf_4cfef 11 = .ok (.invokestatic 92, 3) := by decide +kernel
theorem dJ1_indexOf_4cfef_14 : decode cJ1_indexOf_4cfef 14 = .ok (.istore_n 2, 1) := by decide +kernel
theorem dJ1_indexOf_4cfef_15 : decode cJ1_indexOf_4cfef 15 = .ok (.iload_n 3, 1) := by decide +kernel
theorem dJ1_indexOf_4cfef_16 : decode cJ1_indexOf_4cfef 16 = .ok (.aload_n 0, 1) := by decide +kernel
theorem dJ1_indexOf_4cfef_17 : decode cJ1_indexOf_4cfef 17 = .ok (.arraylength, 1) := by decide +kernel
theorem dJ1_indexOf_4cfef_18 : decode cJ1_indexOf_4cfef 18 = .ok (.invokestatic 38, 3) := by decide +kernel
theorem dJ1_indexOf_4cfef_21 : decode cJ1_indexOf_4cfef 21 = .ok (.istore_n 3, 1) := by decide +kernel
theorem dJ1_indexOf_4cfef_22 : decode cJ1_indexOf_4cfef 22 = .ok (.iload_n 2, 1) := by decide +kernel
theorem dJ1_indexOf_4cfef_23 : decode cJ1_indexOf_4cfef 23 = .ok (.iload_n 3, 1) := by decide +kernel
theorem dJ1_indexOf_4cfef_24 : decode cJ1_indexOf_4cfef 24 = .ok (.if_icmp .lt 5, 3) := by decide +kernel
theorem dJ1_indexOf_4cfef_27 : decode cJ1_indexOf_4cfef 27 = .ok (.iconst (-1), 1) := by decide +kernel
theorem dJ1_indexOf_4cfef_28 : decode cJ1_indexOf_4cfef 28 = .ok (.ireturn, 1) := by decide +kernel
theorem dJ1_indexOf_4cfef_29 : decode cJ1_indexOf_4cfef 29 = .ok (.aload_n 0, 1) := by decide +kernel
theorem dJ1_indexOf_4cfef_30 : decode cJ1_indexOf_4cfef 30 = .ok (.iload_n 1, 1) := by decide +kernel
theorem dJ1_indexOf_4cfef_31 : decode cJ1_indexOf_4cfef 31 = .ok (.iload_n 2, 1) := by decide +kernel
theorem dJ1_indexOf_4cfef_32 : decode cJ1_indexOf_4cfef 32 = .ok (.iload_n 3, 1) := by decide +kernel
theorem dJ1_indexOf_4cfef_33 : decode cJ1_indexOf_4cfef 33 = .ok (.invokestatic 95, 3) := by decide +kernel
theorem dJ1_indexOf_4cfef_36 : decode cJ1_indexOf_4cfef 36 = .ok (.ireturn, 1) := by decide +kernel
theorem dJ1_indexOfChar_4cfef_0 : decode cJ1_indexOfChar_4cfef 0 = .ok (.iload_n 1, 1) := by decide +kernel
theorem dJ1_indexOfChar_4cfef_1 : decode cJ1_indexOfChar_4cfef 1 = .ok (.i2b, 1) := by decide +kernel
theorem dJ1_indexOfChar_4cfef_2 : decode cJ1_indexOfChar_4cfef 2 = .ok (.istore 4, 2) := by decide +kernel
theorem dJ1_indexOfChar_4cfef_4 : decode cJ1_indexOfChar_4cfef 4 = .ok (.iload_n 2, 1) := by decide +kernel
theorem dJ1_indexOfChar_4cfef_5 : decode cJ1_indexOfChar_4cfef 5 = .ok (.istore 5, 2) := by decide +kernel
theorem dJ1_indexOfChar_4cfef_7 : decode cJ1_indexOfChar_4cfef 7 = .ok (.iload 5, 2) := by decide +kernel
theorem dJ1_indexOfChar_4cfef_9 : decode cJ1_indexOfChar_4cfef 9 = .ok (.iload_n 3, 1) := by decide +kernel
theorem dJ1_indexOfChar_4cfef_10 : decode cJ1_indexOfChar_4cfef 10 = .ok (.if_icmp .ge 21, 3) := by decide +kernel
theorem dJ1_indexOfChar_4cfef_13 : decode cJ1_indexOfChar_4cfef 13 = .ok (.aload_n 0, 1) := by decide +kernel
theorem dJ1_indexOfChar_4cfef_14 : decode cJ1_indexOfChar_4cfef 14 = .ok (.iload 5, 2) := by decide +kernel
theorem dJ1_indexOfChar_4cfef_16 : decode cJ1_indexOfChar_4cfef 16 = .ok (.baload, 1) := by decide +kernel
theorem dJ1_indexOfChar_4cfef_17 : decode cJ1_indexOfChar_4cfef 17 = .ok (.iload 4, 2) := by decide +kernel
theorem dJ1_indexOfChar_4cfef_19 : decode cJ1_indexOfChar_4cfef 19 = .ok (.if_icmp .ne 6, 3) := by decide +kernel
theorem dJ1_indexOfChar_4cfef_22 : decode cJ1_indexOfChar_4cfef 22 = .ok (.iload 5, 2) := by decide +kernel
theorem dJ1_indexOfChar_4cfef_24 : decode cJ1_indexOfChar_4cfef 24 = .ok (.ireturn, 1) := by decide +kernel
theorem dJ1_indexOfChar_4cfef_25 : decode cJ1_indexOfChar_4cfef 25 = .ok (.iinc 5 1, 3) := by decide +kernel
theorem dJ1_indexOfChar_4cfef_28 : decode cJ1_indexOfChar_4cfef 28 = .ok (.goto (-21), 3) := by decide +kernel
theorem dJ1_indexOfChar_4cfef_31 : decode cJ1_indexOfChar_4cfef 31 = .ok (.iconst (-1), 1) := by decide +kernel
theorem dJ1_indexOfChar_4cfef_32 : decode cJ1_indexOfChar_4cfef 32 = .ok (.ireturn, 1) := by decide +kernel
theorem dJ2_getChar_3b067_0 : decode cJ2_getChar_3b067 0 = .ok (.getstatic 44, 3) := by decide +kernel
theorem dJ2_getChar_3b067_3 : decode cJ2_getChar_3b067 3 = .ok (.ifCond .ne 25, 3) := by decide +kernel
theorem dJ2_getChar_3b067_6 : decode cJ2_getChar_3b067 6 = .ok (.iload_n 1, 1) := by decide +kernel
theorem dJ2_getChar_3b067_7 : decode cJ2_getChar_3b067 7 = .ok (.ifCond .lt 11, 3) := by decide +kernel
theorem dJ2_getChar_3b067_10 : decode cJ2_getChar_3b067 10 = .ok (.iload_n 1, 1) := by decide +kernel
theorem dJ2_getChar_3b067_11 : decode cJ2_getChar_3b067 11 = .ok (.aload_n 0, 1) := by decide +kernel
theorem dJ2_getChar_3b067_12 : decode cJ2_getChar_3b067 12 = .ok (.invokestatic 48, 3) := by decide +kernel
theorem dJ2_getChar_3b067_15 : decode cJ2_getChar_3b067 15 = .ok (.if_icmp .lt 13, 3) := by decide +kernel
theorem dJ2_getChar_3b067_18 : decode cJ2_getChar_3b067 18 = .ok (.new 52, 3) := by decide +kernel
theorem dJ2_getChar_3b067_21 : decode cJ2_getChar_3b067 21 = .ok (.dup, 1) := by decide +kernel
theorem dJ2_getChar_3b067_22 : decode cJ2_getChar_3b067 22 = .ok (.ldc 54, 2) := by decide +kernel
theorem dJ2_getChar_3b067_24 : decode cJ2_getChar_3b067 24 = .ok (.invokespecial 56, 3) := by decide +kernel
theorem dJ2_getChar_3b067_27 : decode cJ2_getChar_3b067 27 = .ok (.athrow, 1) := by decide +kernel
theorem dJ2_getChar_3b067_28 : decode cJ2_getChar_3b067 28 = .ok (.iload_n 1, 1) := by decide +kernel
theorem dJ2_getChar_3b067_29 : decode cJ2_getChar_3b067 29 = .ok (.iconst 1, 1) := by decide +kernel
theorem dJ2_getChar_3b067_30 : decode cJ2_getChar_3b067 30 = .ok (.ishl, 1) := by decide +kernel
theorem dJ2_getChar_3b067_31 : decode cJ2_getChar_3b067 31 = .ok (.istore_n 1, 1) := by decide +kernel
theorem dJ2_getChar_3b067_32 : decode cJ2_getChar_3b067 32 = .ok (.aload_n 0, 1) := by decide +kernel
theorem dJ2_getChar_3b067_33 : decode cJ2_getChar_3b067 33 = .ok (.iload_n 1, 1) := by decide +kernel
theorem dJ2_getChar_3b067_34 : decode cJ2_getChar_3b067 34 = .ok (.iinc 1 1, 3) := by decide +kernel
theorem dJ2_getChar_3b067_37 : decode cJ2_getChar_3b067 37 = .ok (.baload, 1) := by decide +kernel
theorem dJ2_getChar_3b067_38 : decode cJ2_getChar_3b067 38 = .ok (.sipush 255, 3) := by decide +kernel
theorem dJ2_getChar_3b067_41 : decode cJ2_getChar_3b067 41 = .ok (.iand, 1) := by decide +kernel
theorem dJ2_getChar_3b067_42 : decode cJ2_getChar_3b067 42 = .ok (.getstatic 59, 3) := by decide +kernel
theorem dJ2_getChar_3b067_45 : decode cJ2_getChar_3b067 45 = .ok (.ishl, 1) := by decide +kernel
theorem dJ2_getChar_3b067_46 : decode cJ2_getChar_3b067 46 = .ok (.aload_n 0, 1) := by decide +kernel
theorem dJ2_getChar_3b067_47 : decode cJ2_getChar_3b067 47 = .ok (.iload_n 1, 1) := by decide +kernel
theorem dJ2_getChar_3b067_48 : decode cJ2_getChar_3b067 48 = .ok (.baload, 1) := by decide +kernel
theorem dJ2_getChar_3b067_49 : decode cJ2_getChar_3b067 49 = .ok (.sipush 255, 3) := by decide +kernel
theorem dJ2_getChar_3b067_52 : decode cJ2_getChar_3b067 52 = .ok (.iand, 1) := by decide +kernel
theorem dJ2_getChar_3b067_53 : decode cJ2_getChar_3b067 53 = .ok (.getstatic 63, 3) := by decide +kernel
theorem dJ2_getChar_3b067_56 : decode cJ2_getChar_3b067 56 = .ok (.ishl, 1) := by decide +kernel
theorem dJ2_getChar_3b067_57 : decode cJ2_getChar_3b067 57 = .ok (.ior, 1) := by decide +kernel
theorem dJ2_getChar_3b067_58 : decode cJ2_getChar_3b067 58 = .ok (.i2c, 1) := by decide +kernel
theorem dJ2_getChar_3b067_59 : decode cJ2_getChar_3b067 59 = .ok (.ireturn, 1) := by decide +kernel
theorem dJ2_length_9d52b_0 : decode cJ2_length_9d52b 0 = .ok (.aload_n 0, 1) := by decide +kernel
theorem dJ2_length_9d52b_1 : decode cJ2_length_9d52b 1 = .ok (.arraylength, 1) := by decide +kernel
theorem dJ2_length_9d52b_2 : decode cJ2_length_9d52b 2 = .ok (.iconst 1, 1) := by decide +kernel
theorem dJ2_length_9d52b_3 : decode cJ2_length_9d52b 3 = .ok (.ishr, 1) := by decide +kernel
theorem dJ2_length_9d52b_4 : decode cJ2_length_9d52b 4 = .ok (.ireturn, 1) := by decide +kernel
theorem dJ2_indexOf_4cfef_0 : decode cJ2_indexOf_4cfef 0 = .ok (.iload_n 2, 1) := by decide +kernel
theorem dJ2_indexOf_4cfef_1 : decode cJ2_indexOf_4cfef 1 = .ok (.iconst 0, 1) := by decide +kernel
theorem dJ2_indexOf_4cfef_2 : decode cJ2_indexOf_4cfef 2 = .ok (.invokestatic 224, 3) := by decide +kernel
theorem dJ2_indexOf_4cfef_5 : decode cJ2_indexOf_4cfef 5 = .ok (.istore_n 2, 1) := by decide +kernel
theorem dJ2_indexOf_4cfef_6 : decode cJ2_indexOf_4cfef 6 = .ok (.iload_n 3, 1) := by decide +kernel
theorem dJ2_indexOf_4cfef_7 : decode cJ2_indexOf_4cfef 7 = .ok (.aload_n 0, 1) := by decide +kernel
theorem dJ2_indexOf_4cfef_8 : decode cJ2_indexOf_4cfef 8 = .ok (.arraylength, 1) := by decide +kernel
theorem dJ2_indexOf_4cfef_9 : decode cJ2_indexOf_4cfef 9 = .ok (.iconst 1, 1) := by decide +kernel
theorem dJ2_indexOf_4cfef_10 : decode cJ2_indexOf_4cfef 10 = .ok (.ishr, 1) := by decide +kernel
theorem dJ2_indexOf_4cfef_11 : decode cJ2_indexOf_4cfef 11 = .ok (.invokestatic 183, 3) := by decide +kernel
theorem dJ2_indexOf_4cfef_14 : decode cJ2_indexOf_4cfef 14 = .ok (.istore_n 3, 1) := by decide +kernel
theorem dJ2_indexOf_4cfef_15 : decode cJ2_indexOf_4cfef 15 = .ok (.iload_n 2, 1) := by decide +kernel
theorem dJ2_indexOf_4cfef_16 : decode cJ2_indexOf_4cfef 16 = .ok (.iload_n 3, 1) := by decide +kernel
theorem dJ2_indexOf_4cfef_17 : decode cJ2_indexOf_4cfef 17 = .ok (.if_icmp .lt 5, 3) := by decide +kernel
theorem dJ2_indexOf_4cfef_20 : decode cJ2_indexOf_4cfef 20 = .ok (.iconst (-1), 1) := by decide +kernel
theorem dJ2_indexOf_4cfef_21 : decode cJ2_indexOf_4cfef 21 = .ok (.ireturn, 1) := by decide +kernel
theorem dJ2_indexOf_4cfef_22 : decode cJ2_indexOf_4cfef 22 = .ok (.iload_n 1, 1) := by decide +kernel
theorem dJ2_indexOf_4cfef_23 : decode cJ2_indexOf_4cfef 23 = .ok (.ldc 227, 2) := by decide +kernel
theorem dJ2_indexOf_4cfef_25 : decode cJ2_indexOf_4cfef 25 = .ok (.if_icmp .ge 11, 3) := by decide +kernel
theorem dJ2_indexOf_4cfef_28 : decode cJ2_indexOf_4cfef 28 = .ok (.aload_n 0, 1) := by decide +kernel
theorem dJ2_indexOf_4cfef_29 : decode cJ2_indexOf_4cfef 29 = .ok (.iload_n 1, 1) := by decide +kernel
theorem dJ2_indexOf_4cfef_30 : decode cJ2_indexOf_4cfef 30 = .ok (.iload_n 2, 1) := by decide +kernel
theorem dJ2_indexOf_4cfef_31 : decode cJ2_indexOf_4cfef 31 = .ok (.iload_n 3, 1) := by decide +kernel
theorem dJ2_indexOf_4cfef_32 : decode cJ2_indexOf_4cfef 32 = .ok (.invokestatic 228, 3) := by decide +kernel
theorem dJ2_indexOf_4cfef_35 : decode cJ2_indexOf_4cfef 35 = .ok (.ireturn, 1) := by decide +kernel
theorem dJ2_indexOf_4cfef_36 : decode cJ2_indexOf_4cfef 36 = .ok (.aload_n 0, 1) := by decide +kernel
theorem dJ2_indexOf_4cfef_37 : decode cJ2_indexOf_4cfef 37 = .ok (.iload_n 1, 1) := by decide +kernel
theorem dJ2_indexOf_4cfef_38 : decode cJ2_indexOf_4cfef 38 = .ok (.iload_n 2, 1) := by decide +kernel
theorem dJ2_indexOf_4cfef_39 : decode cJ2_indexOf_4cfef 39 = .ok (.iload_n 3, 1) := by decide +kernel
theorem dJ2_indexOf_4cfef_40 : decode cJ2_indexOf_4cfef 40 = .ok (.invokestatic 232, 3) := by decide +kernel
theorem dJ2_indexOf_4cfef_43 : decode cJ2_indexOf_4cfef 43 = .ok (.ireturn, 1) := by decide +kernel
theorem dJ2_indexOfChar_4cfef_0 : decode cJ2_indexOfChar_4cfef 0 = .ok (.iload_n 2, 1) := by decide +kernel
theorem dJ2_indexOfChar_4cfef_1 : decode cJ2_indexOfChar_4cfef 1 = .ok (.iload_n 3, 1) := by decide +kernel
theorem dJ2_indexOfChar_4cfef_2 : decode cJ2_indexOfChar_4cfef 2 = .ok (.aload_n 0, 1) := by decide +kernel
theorem dJ2_indexOfChar_4cfef_3 : decode cJ2_indexOfChar_4cfef 3 = .ok (.invokestatic 96, 3) := by decide +kernel
theorem dJ2_indexOfChar_4cfef_6 : decode cJ2_indexOfChar_4cfef 6 = .ok (.aload_n 0, 1) := by decide +kernel
theorem dJ2_indexOfChar_4cfef_7 : decode cJ2_indexOfChar_4cfef 7 = .ok (.iload_n 1, 1) := by decide +kernel
theorem dJ2_indexOfChar_4cfef_8 : decode cJ2_indexOfChar_4cfef 8 = .ok (.iload_n 2, 1) := by decide +kernel
theorem dJ2_indexOfChar_4cfef_9 : decode cJ2_indexOfChar_4cfef 9 = .ok (.iload_n 3, 1) := by decide +kernel
theorem dJ2_indexOfChar_4cfef_10 : decode cJ2_indexOfChar_4cfef 10 = .ok (.invokestatic 244, 3) := by decide +kernel
theorem dJ2_indexOfChar_4cfef_13 : decode cJ2_indexOfChar_4cfef 13 = .ok (.ireturn, 1) := by decide +kernel
theorem dJ2_indexOfCharUnsafe_4cfef_0 : decode cJ2_indexOfCharUnsafe_4cfef 0 = .ok (.iload_n 2, 1) := by decide +kernel
theorem dJ2_indexOfCharUnsafe_4cfef_1 : decode cJ2_indexOfCharUnsafe_4cfef 1 = .ok (.istore 4, 2) := by decide +kernel
theorem dJ2_indexOfCharUnsafe_4cfef_3 : decode cJ2_indexOfCharUnsafe_4cfef 3 = .ok (.iload 4, 2) := by decide +kernel
theorem dJ2_indexOfCharUnsafe_4cfef_5 : decode cJ2_indexOfCharUnsafe_4cfef 5 = .ok (.iload_n 3, 1) := by decide +kernel
theorem dJ2_indexOfCharUnsafe_4cfef_6 : decode cJ2_indexOfCharUnsafe_4cfef 6 = .ok (.if_icmp .ge 22, 3) := by decide +kernel
theorem dJ2_indexOfCharUnsafe_4cfef_9 : decode cJ2_indexOfCharUnsafe_4cfef 9 = .ok (.aload_n 0, 1) := by decide +kernel
theorem dJ2_indexOfCharUnsafe_4cfef_10 : decode cJ2_indexOfCharUnsafe_4cfef 10 = .ok (.iload 4, 2) := by decide +kernel
theorem dJ2_indexOfCharUnsafe_4cfef_12 : decode cJ2_indexOfCharUnsafe_4cfef 12 = .ok (.invokestatic 71, 3) := by decide +kernel
theorem dJ2_indexOfCharUnsafe_4cfef_15 : decode cJ2_indexOfCharUnsafe_4cfef 15 = .ok (.iload_n 1, 1) := by decide +kernel
theorem dJ2_indexOfCharUnsafe_4cfef_16 : decode cJ2_indexOfCharUnsafe_4cfef 16 = .ok (.if_icmp .ne 6, 3) := by decide +kernel
theorem dJ2_indexOfCharUnsafe_4cfef_19 : decode cJ2_indexOfCharUnsafe_4cfef 19 = .ok (.iload 4, 2) := by decide +kernel
theorem dJ2_indexOfCharUnsafe_4cfef_21 : decode cJ2_indexOfCharUnsafe_4cfef 21 = .ok (.ireturn, 1) := by decide +kernel
theorem dJ2_indexOfCharUnsafe_4cfef_22 : decode cJ2_indexOfCharUnsafe_4cfef 22 = .ok (.iinc 4 1, 3) := by decide +kernel
theorem dJ2_indexOfCharUnsafe_4cfef_25 : decode cJ2_indexOfCharUnsafe_4cfef 25 = .ok (.goto (-22), 3) := by decide +kernel
theorem dJ2_indexOfCharUnsafe_4cfef_28 : decode cJ2_indexOfCharUnsafe_4cfef 28 = .ok (.iconst (-1), 1) := by decide +kernel
theorem dJ2_indexOfCharUnsafe_4cfef_29 : decode cJ2_indexOfCharUnsafe_4cfef 29 = .ok (.ireturn, 1) := by decide +kernel
theorem dJ2_indexOfSupplementary_4cfef_0 : decode cJ2_indexOfSupplementary_4cfef 0 = .ok (.iload_n 1, 1) := by decide +kernel
theorem dJ2_indexOfSupplementary_4cfef_1 : decode cJ2_indexOfSupplementary_4cfef 1 = .ok (.invokestatic 164, 3) := by decide +kernel
theorem dJ2_indexOfSupplementary_4cfef_4 : decode cJ2_indexOfSupplementary_4cfef 4 = .ok (.ifCond .eq 65, 3) := by decide +kernel
theorem dJ2_indexOfSupplementary_4cfef_7 : decode cJ2_indexOfSupplementary_4cfef 7 = .ok (.iload_n 1, 1) := by decide +kernel
theorem dJ2_indexOfSupplementary_4cfef_8 : decode cJ2_indexOfSupplementary_4cfef 8 = .ok (.invokestatic 157, 3) := by decide +kernel
theorem dJ2_indexOfSupplementary_4cfef_11 : decode cJ2_indexOfSupplementary_4cfef 11 = .ok (.istore 4, 2) := by decide +kernel
theorem dJ2_indexOfSupplementary_4cfef_13 : decode cJ2_indexOfSupplementary_4cfef 13 = .ok (.iload_n 1, 1) := by decide +kernel
theorem dJ2_indexOfSupplementary_4cfef_14 : decode cJ2_indexOfSupplementary_4cfef 14 = .ok (.invokestatic 161, 3) := by decide +kernel
theorem dJ2_indexOfSupplementary_4cfef_17 : decode cJ2_indexOfSupplementary_4cfef 17 = .ok (.istore 5, 2) := by decide +kernel
theorem dJ2_indexOfSupplementary_4cfef_19 : decode cJ2_indexOfSupplementary_4cfef 19 = .ok (.iload_n 2, 1) := by decide +kernel
theorem dJ2_indexOfSupplementary_4cfef_20 : decode cJ2_indexOfSupplementary_4cfef 20 = .ok (.iload_n 3, 1) := by decide +kernel
theorem dJ2_indexOfSupplementary_4cfef_21 : decode cJ2_indexOfSupplementary_4cfef 21 = .ok (.aload_n 0, 1) := by decide +kernel
theorem dJ2_indexOfSupplementary_4cfef_22 : decode cJ2_indexOfSupplementary_4cfef 22 = .ok (.invokestatic 96, 3) := by decide +kernel
theorem dJ2_indexOfSupplementary_4cfef_25 : decode cJ2_indexOfSupplementary_4cfef 25 = .ok (.iload_n 2, 1) := by decide +kernel
theorem dJ2_indexOfSupplementary_4cfef_26 : decode cJ2_indexOfSupplementary_4cfef 26 = .ok (.istore 6, 2) := by decide +kernel
theorem dJ2_indexOfSupplementary_4cfef_28 : decode cJ2_indexOfSupplementary_4cfef 28 = .ok (.iload 6, 2) := by decide +kernel
theorem dJ2_indexOfSupplementary_4cfef_30 : decode cJ2_indexOfSupplementary_4cfef 30 = .ok (.iload_n 3, 1) := by decide +kernel
theorem dJ2_indexOfSupplementary_4cfef_31 : decode cJ2_indexOfSupplementary_4cfef 31 = .ok (.iconst 1, 1) := by decide +kernel
theorem dJ2_indexOfSupplementary_4cfef_32 : decode cJ2_indexOfSupplementary_4cfef 32 = .ok (.isub, 1) := by decide +kernel
theorem dJ2_indexOfSupplementary_4cfef_33 : decode cJ2_indexOfSupplementary_4cfef 33 = .ok (.if_icmp .ge 36, 3) := by decide +kernel
theorem dJ2_indexOfSupplementary_4cfef_36 : decode cJ2_indexOfSupplementary_4cfef 36 = .ok (.aload_n 0, 1) := by decide +kernel
theorem dJ2_indexOfSupplementary_4cfef_37 : decode cJ2_indexOfSupplementary_4cfef 37 = .ok (.iload 6, 2) := by decide +kernel
theorem dJ2_indexOfSupplementary_4cfef_39 : decode cJ2_indexOfSupplementary_4cfef 39 = .ok (.invokestatic 71, 3) := by decide +kernel
theorem dJ2_indexOfSupplementary_4cfef_42 : decode cJ2_indexOfSupplementary_4cfef 42 = .ok (.iload 4, 2) := by decide +kernel
theorem dJ2_indexOfSupplementary_4cfef_44 : decode cJ2_indexOfSupplementary_4cfef 44 = .ok (.if_icmp .ne 19, 3) := by decide +kernel
theorem dJ2_indexOfSupplementary_4cfef_47 : decode cJ2_indexOfSupplementary_4cfef 47 = .ok (.aload_n 0, 1) := by decide +kernel
theorem dJ2_indexOfSupplementary_4cfef_48 : decode cJ2_indexOfSupplementary_4cfef 48 = .ok (.iload 6, 2) := by decide +kernel
theorem dJ2_indexOfSupplementary_4cfef_50 : decode cJ2_indexOfSupplementary_4cfef 50 = .ok (.iconst 1, 1) := by decide +kernel
theorem dJ2_indexOfSupplementary_4cfef_51 : decode cJ2_indexOfSupplementary_4cfef 51 = .ok (.iadd, 1) := by decide +kernel
theorem dJ2_indexOfSupplementary_4cfef_52 : decode cJ2_indexOfSupplementary_4cfef 52 = .ok (.invokestatic 71, 3) := by decide +kernel
theorem dJ2_indexOfSupplementary_4cfef_55 : decode cJ2_indexOfSupplementary_4cfef 55 = .ok (.iload 5, 2) := by decide +kernel
theorem dJ2_indexOfSupplementary_4cfef_57 : decode cJ2_indexOfSupplementary_4cfef 57 = .ok (.if_icmp .ne 6, 3) := by decide +kernel
theorem dJ2_indexOfSupplementary_4cfef_60 : decode cJ2_indexOfSupplementary_4cfef 60 = .ok (.iload 6, 2) := by decide +kernel
theorem dJ2_indexOfSupplementary_4cfef_62 : decode cJ2_indexOfSupplementary_4cfef 62 = .ok (.ireturn, 1) := by decide +kernel
theorem dJ2_indexOfSupplementary_4cfef_63 : decode cJ2_indexOfSupplementary_4cfef 63 = .ok (.iinc 6 1, 3) := by decide +kernel
theorem dJ2_indexOfSupplementary_4cfef_66 : decode cJ2_indexOfSupplementary_4cfef 66 = .ok (.goto (-38), 3) := by decide +kernel
theorem dJ2_indexOfSupplementary_4cfef_69 : decode cJ2_indexOfSupplementary_4cfef 69 = .ok (.iconst (-1), 1) := by decide +kernel
theorem dJ2_indexOfSupplementary_4cfef_70 : decode cJ2_indexOfSupplementary_4cfef 70 = .ok (.ireturn, 1) := by decide +kernel
theorem dJ2_charAt_3b067_0 : decode cJ2_charAt_3b067 0 = .ok (.iload_n 1, 1) := by decide +kernel
theorem dJ2_charAt_3b067_1 : decode cJ2_charAt_3b067 1 = .ok (.aload_n 0, 1) := by decide +kernel
theorem dJ2_charAt_3b067_2 : decode cJ2_charAt_3b067 2 = .ok (.invokestatic 67, 3) := by decide +kernel
theorem dJ2_charAt_3b067_5 : decode cJ2_charAt_3b067 5 = .ok (.aload_n 0, 1) := by decide +kernel
theorem dJ2_charAt_3b067_6 : decode cJ2_charAt_3b067 6 = .ok (.iload_n 1, 1) := by decide +kernel
theorem dJ2_charAt_3b067_7 : decode cJ2_charAt_3b067 7 = .ok (.invokestatic 71, 3) := by decide +kernel
theorem dJ2_charAt_3b067_10 : decode cJ2_charAt_3b067 10 = .ok (.ireturn, 1) := by decide +kernel
theorem dJ2_checkIndex_2214a_0 : decode cJ2_checkIndex_2214a 0 = .ok (.iload_n 0, 1) := by decide +kernel
theorem dJ2_checkIndex_2214a_1 : decode cJ2_checkIndex_2214a 1 = .ok (.aload_n 1, 1) := by decide +kernel
theorem dJ2_checkIndex_2214a_2 : decode cJ2_checkIndex_2214a 2 = .ok (.invokestatic 48, 3) := by decide +kernel
theorem dJ2_checkIndex_2214a_5 : decode cJ2_checkIndex_2214a 5 = .ok (.invokestatic 414, 3) := by decide +kernel
theorem dJ2_checkIndex_2214a_8 : decode cJ2_checkIndex_2214a 8 = .ok (.return_, 1) := by decide +kernel
theorem dJ2_checkBoundsBeginEnd_d044e_0 : decode cJ2_checkBoundsBeginEnd_d044e 0 = .ok (.iload_n 0, 1) := by decide +kernel
theorem dJ2_checkBoundsBeginEnd_d044e_1 : decode cJ2_checkBoundsBeginEnd_d044e 1 = .ok (.iload_n 1, 1) := by decide +kernel
theorem dJ2_checkBoundsBeginEnd_d044e_2 : decode cJ2_checkBoundsBeginEnd_d044e 2 = .ok (.aload_n 2, 1) := by decide +kernel
theorem dJ2_checkBoundsBeginEnd_d044e_3 : decode cJ2_checkBoundsBeginEnd_d044e 3 = .ok (.invokestatic 48, 3) := by decide +kernel
theorem dJ2_checkBoundsBeginEnd_d044e_6 : decode cJ2_checkBoundsBeginEnd_d044e 6 = .ok (.invokestatic 241, 3) := by decide +kernel
theorem dJ2_checkBoundsBeginEnd_d044e_9 : decode cJ2_checkBoundsBeginEnd_d044e 9 = .ok (.return_, 1) := by decide +kernel
theorem dJ3_checkIndex_8e157_0 : decode cJ3_checkIndex_8e157 0 = .ok (.iload_n 0, 1) := by decide +kernel
theorem dJ3_checkIndex_8e157_1 : decode cJ3_checkIndex_8e157 1 = .ok (.ifCond .lt 8, 3) := by decide +kernel
theorem dJ3_checkIndex_8e157_4 : decode cJ3_checkIndex_8e157 4 = .ok (.iload_n 0, 1) := by decide +kernel
theorem dJ3_checkIndex_8e157_5 : decode cJ3_checkIndex_8e157 5 = .ok (.iload_n 1, 1) := by decide +kernel
theorem dJ3_checkIndex_8e157_6 : decode cJ3_checkIndex_8e157 6 = .ok (.if_icmp .lt 10, 3) := by decide +kernel
theorem dJ3_checkIndex_8e157_9 : decode cJ3_checkIndex_8e157 9 = .ok (.aload_n 2, 1) := by decide +kernel
theorem dJ3_checkIndex_8e157_10 : decode cJ3_checkIndex_8e157 10 = .ok (.iload_n 0, 1) := by decide +kernel
theorem dJ3_checkIndex_8e157_11 : decode cJ3_checkIndex_8e157 11 = .ok (.iload_n 1, 1) := by decide +kernel
theorem dJ3_checkIndex_8e157_12 : decode cJ3_checkIndex_8e157 12 = .ok (.invokestatic 95, 3) := by decide +kernel
theorem dJ3_checkIndex_8e157_15 : decode cJ3_checkIndex_8e157 15 = .ok (.athrow, 1) := by decide +kernel
theorem dJ3_checkIndex_8e157_16 : decode cJ3_checkIndex_8e157 16 = .ok (.iload_n 0, 1) := by decide +kernel
theorem dJ3_checkIndex_8e157_17 : decode cJ3_checkIndex_8e157 17 = .ok (.ireturn, 1) := by decide +kernel
theorem dJ3_checkFromToIndex_8c36e_0 : decode cJ3_checkFromToIndex_8c36e 0 = .ok (.iload_n 0, 1) := by decide +kernel
theorem dJ3_checkFromToIndex_8c36e_1 : decode cJ3_checkFromToIndex_8c36e 1 = .ok (.ifCond .lt 13, 3) := by decide +kernel
theorem dJ3_checkFromToIndex_8c36e_4 : decode cJ3_checkFromToIndex_8c36e 4 = .ok (.iload_n 0, 1) := by decide +kernel
theorem dJ3_checkFromToIndex_8c36e_5 : decode cJ3_checkFromToIndex_8c36e 5 = .ok (.iload_n 1, 1) := by decide +kernel
theorem dJ3_checkFromToIndex_8c36e_6 : decode cJ3_checkFromToIndex_8c36e 6 = .ok (.if_icmp .gt 8, 3) := by decide +kernel
theorem dJ3_checkFromToIndex_8c36e_9 : decode cJ3_checkFromToIndex_8c36e 9 = .ok (.iload_n 1, 1) := by decide +kernel
theorem dJ3_checkFromToIndex_8c36e_10 : decode cJ3_checkFromToIndex_8c36e 10 = .ok (.iload_n 2, 1) := by decide +kernel
theorem dJ3_checkFromToIndex_8c36e_11 : decode cJ3_checkFromToIndex_8c36e 11 = .ok (.if_icmp .le 11, 3) := by decide +kernel
theorem dJ3_checkFromToIndex_8c36e_14 : decode cJ3_checkFromToIndex_8c36e 14 = .ok (.aload_n 3, 1) := by decide +kernel
theorem dJ3_checkFromToIndex_8c36e_15 : decode cJ3_checkFromToIndex_8c36e 15 = .ok (.iload_n 0, 1) := by decide +kernel
theorem dJ3_checkFromToIndex_8c36e_16 : decode cJ3_checkFromToIndex_8c36e 16 = .ok (.iload_n 1, 1) := by decide +kernel
theorem dJ3_checkFromToIndex_8c36e_17 : decode cJ3_checkFromToIndex_8c36e 17 = .ok (.iload_n 2, 1) := by decide +kernel
theorem dJ3_checkFromToIndex_8c36e_18 : decode cJ3_checkFromToIndex_8c36e 18 = .ok (.invokestatic 99, 3) := by decide +kernel
theorem dJ3_checkFromToIndex_8c36e_21 : decode cJ3_checkFromToIndex_8c36e 21 = .ok (.athrow, 1) := by decide +kernel
theorem dJ3_checkFromToIndex_8c36e_22 : decode cJ3_checkFromToIndex_8c36e 22 = .ok (.iload_n 0, 1) := by decide +kernel
theorem dJ3_checkFromToIndex_8c36e_23 : decode cJ3_checkFromToIndex_8c36e 23 = .ok (.ireturn, 1) := by decide +kernel
theorem dJ11_isValidCodePoint_9a6ad_0 : decode cJ11_isValidCodePoint_9a6ad 0 = .ok (.iload_n 0, 1) := by decide +kernel
theorem dJ11_isValidCodePoint_9a6ad_1 : decode cJ11_isValidCodePoint_9a6ad 1 = .ok (.bipush 16, 2) := by decide +kernel
theorem dJ11_isValidCodePoint_9a6ad_3 : decode cJ11_isValidCodePoint_9a6ad 3 = .ok (.iushr, 1) := by decide +kernel
theorem dJ11_isValidCodePoint_9a6ad_4 : decode cJ11_isValidCodePoint_9a6ad 4 = .ok (.istore_n 1, 1) := by decide +kernel
theorem dJ11_isValidCodePoint_9a6ad_5 : decode cJ11_isValidCodePoint_9a6ad 5 = .ok (.iload_n 1, 1) := by decide +kernel
theorem dJ11_isValidCodePoint_9a6ad_6 : decode cJ11_isValidCodePoint_9a6ad 6 = .ok (.bipush 17, 2) := by decide +kernel
theorem dJ11_isValidCodePoint_9a6ad_8 : decode cJ11_isValidCodePoint_9a6ad 8 = .ok (.if_icmp .ge 7, 3) := by decide +kernel
theorem dJ11_isValidCodePoint_9a6ad_11 : decode cJ11_isValidCodePoint_9a6ad 11 = .ok (.iconst 1, 1) := by decide +kernel
theorem dJ11_isValidCodePoint_9a6ad_12 : decode cJ11_isValidCodePoint_9a6ad 12 = .ok (.goto 4, 3) := by decide +kernel
theorem dJ11_isValidCodePoint_9a6ad_15 : decode cJ11_isValidCodePoint_9a6ad 15 = .ok (.iconst 0, 1) := by decide +kernel
theorem dJ11_isValidCodePoint_9a6ad_16 : decode cJ11_isValidCodePoint_9a6ad 16 = .ok (.ireturn, 1) := by decide +kernel
theorem dJ11_highSurrogate_5068e_0 : decode cJ11_highSurrogate_5068e 0 = .ok (.iload_n 0, 1) := by decide +kernel
theorem dJ11_highSurrogate_5068e_1 : decode cJ11_highSurrogate_5068e 1 = .ok (.bipush 10, 2) := by decide +kernel
theorem dJ11_highSurrogate_5068e_3 : decode cJ11_highSurrogate_5068e 3 = .ok (.iushr, 1) := by decide +kernel
theorem dJ11_highSurrogate_5068e_4 : decode cJ11_highSurrogate_5068e 4 = .ok (.ldc 110, 2) := by decide +kernel
theorem dJ11_highSurrogate_5068e_6 : decode cJ11_highSurrogate_5068e 6 = .ok (.iadd, 1) := by decide +kernel
theorem dJ11_highSurrogate_5068e_7 : decode cJ11_highSurrogate_5068e 7 = .ok (.i2c, 1) := by decide +kernel
theorem dJ11_highSurrogate_5068e_8 : decode cJ11_highSurrogate_5068e 8 = .ok (.ireturn, 1) := by decide +kernel
theorem dJ11_lowSurrogate_5068e_0 : decode cJ11_lowSurrogate_5068e 0 = .ok (.iload_n 0, 1) := by decide +kernel
theorem dJ11_lowSurrogate_5068e_1 : decode cJ11_lowSurrogate_5068e 1 = .ok (.sipush 1023, 3) := by decide +kernel
theorem dJ11_lowSurrogate_5068e_4 : decode cJ11_lowSurrogate_5068e 4 = .ok (.iand, 1) := by decide +kernel
theorem dJ11_lowSurrogate_5068e_5 : decode cJ11_lowSurrogate_5068e 5 = .ok (.ldc 76, 2) := by decide +kernel
theorem dJ11_lowSurrogate_5068e_7 : decode cJ11_lowSurrogate_5068e 7 = .ok (.iadd, 1) := by decide +kernel
theorem dJ11_lowSurrogate_5068e_8 : decode cJ11_lowSurrogate_5068e 8 = .ok (.i2c, 1) := by decide +kernel
theorem dJ11_lowSurrogate_5068e_9 : decode cJ11_lowSurrogate_5068e 9 = .ok (.ireturn, 1) := by decide +kernel
