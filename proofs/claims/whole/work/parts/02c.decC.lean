theorem dX0_init_0 : decode cX0_init 0 = .ok (.aload_n 0, 1) := by decide +kernel
theorem dX0_init_1 : decode cX0_init 1 = .ok (.invokespecial 1, 3) := by decide +kernel
theorem dX0_init_4 : decode cX0_init 4 = .ok (.aload_n 0, 1) := by decide +kernel
theorem dX0_init_5 : decode cX0_init 5 = .ok (.iload_n 1, 1) := by decide +kernel
theorem dX0_init_6 : decode cX0_init 6 = .ok (.newarray .int, 2) := by decide +kernel
theorem dX0_init_8 : decode cX0_init 8 = .ok (.putfield 7, 3) := by decide +kernel
theorem dX0_init_11 : decode cX0_init 11 = .ok (.return_, 1) := by decide +kernel
theorem dX0_accept_0 : decode cX0_accept 0 = .ok (.aload_n 0, 1) := by decide +kernel
theorem dX0_accept_1 : decode cX0_accept 1 = .ok (.iload_n 2, 1) := by decide +kernel
theorem dX0_accept_2 : decode cX0_accept 2 = .ok (.putfield 13, 3) := by decide +kernel
theorem dX0_accept_5 : decode cX0_accept 5 = .ok (.iload_n 1, 1) := by decide +kernel
theorem dX0_accept_6 : decode cX0_accept 6 = .ok (.ifCond .lt 23, 3) := by decide +kernel
theorem dX0_accept_9 : decode cX0_accept 9 = .ok (.iload_n 1, 1) := by decide +kernel
theorem dX0_accept_10 : decode cX0_accept 10 = .ok (.aload_n 0, 1) := by decide +kernel
theorem dX0_accept_11 : decode cX0_accept 11 = .ok (.getfield 7, 3) := by decide +kernel
theorem dX0_accept_14 : decode cX0_accept 14 = .ok (.arraylength, 1) := by decide +kernel
theorem dX0_accept_15 : decode cX0_accept 15 = .ok (.if_icmp .ge 14, 3) := by decide +kernel
theorem dX0_accept_18 : decode cX0_accept 18 = .ok (.aload_n 0, 1) := by decide +kernel
theorem dX0_accept_19 : decode cX0_accept 19 = .ok (.getfield 7, 3) := by decide +kernel
theorem dX0_accept_22 : decode cX0_accept 22 = .ok (.iload_n 1, 1) := by decide +kernel
theorem dX0_accept_23 : decode cX0_accept 23 = .ok (.iload_n 2, 1) := by decide +kernel
theorem dX0_accept_24 : decode cX0_accept 24 = .ok (.iload_n 3, 1) := by decide +kernel
theorem dX0_accept_25 : decode cX0_accept 25 = .ok (.invokestatic 17, 3) := by decide +kernel
theorem dX0_accept_28 : decode cX0_accept 28 = .ok (.iastore, 1) := by decide +kernel
theorem dX0_accept_29 : decode cX0_accept 29 = .ok (.return_, 1) := by decide +kernel
theorem dX1_init_0 : decode cX1_init 0 = .ok (.aload_n 0, 1) := by decide +kernel
theorem dX1_init_1 : decode cX1_init 1 = .ok (.invokespecial 3, 3) := by decide +kernel
theorem dX1_init_4 : decode cX1_init 4 = .ok (.aload_n 0, 1) := by decide +kernel
theorem dX1_init_5 : decode cX1_init 5 = .ok (.iload_n 2, 1) := by decide +kernel
theorem dX1_init_6 : decode cX1_init 6 = .ok (.putfield 9, 3) := by decide +kernel
theorem dX1_init_9 : decode cX1_init 9 = .ok (.aload_n 0, 1) := by decide +kernel
theorem dX1_init_10 : decode cX1_init 10 = .ok (.iload_n 1, 1) := by decide +kernel
theorem dX1_init_11 : decode cX1_init 11 = .ok (.newarray .int, 2) := by decide +kernel
theorem dX1_init_13 : decode cX1_init 13 = .ok (.putfield 15, 3) := by decide +kernel
theorem dX1_init_16 : decode cX1_init 16 = .ok (.aload_n 0, 1) := by decide +kernel
theorem dX1_init_17 : decode cX1_init 17 = .ok (.iload_n 1, 1) := by decide +kernel
theorem dX1_init_18 : decode cX1_init 18 = .ok (.newarray .int, 2) := by decide +kernel
theorem dX1_init_20 : decode cX1_init 20 = .ok (.putfield 19, 3) := by decide +kernel
theorem dX1_init_23 : decode cX1_init 23 = .ok (.aload_n 0, 1) := by decide +kernel
theorem dX1_init_24 : decode cX1_init 24 = .ok (.iload_n 1, 1) := by decide +kernel
theorem dX1_init_25 : decode cX1_init 25 = .ok (.iload_n 2, 1) := by decide +kernel
theorem dX1_init_26 : decode cX1_init 26 = .ok (.imul, 1) := by decide +kernel
theorem dX1_init_27 : decode cX1_init 27 = .ok (.newarray .int, 2) := by decide +kernel
theorem dX1_init_29 : decode cX1_init 29 = .ok (.putfield 22, 3) := by decide +kernel
theorem dX1_init_32 : decode cX1_init 32 = .ok (.return_, 1) := by decide +kernel
theorem dX1_startAsking_0 : decode cX1_startAsking 0 = .ok (.aload_n 0, 1) := by decide +kernel
theorem dX1_startAsking_1 : decode cX1_startAsking 1 = .ok (.iload_n 1, 1) := by decide +kernel
theorem dX1_startAsking_2 : decode cX1_startAsking 2 = .ok (.putfield 25, 3) := by decide +kernel
theorem dX1_startAsking_5 : decode cX1_startAsking 5 = .ok (.aload_n 0, 1) := by decide +kernel
theorem dX1_startAsking_6 : decode cX1_startAsking 6 = .ok (.iload_n 1, 1) := by decide +kernel
theorem dX1_startAsking_7 : decode cX1_startAsking 7 = .ok (.putfield 28, 3) := by decide +kernel
theorem dX1_startAsking_10 : decode cX1_startAsking 10 = .ok (.aload_n 0, 1) := by decide +kernel
theorem dX1_startAsking_11 : decode cX1_startAsking 11 = .ok (.iconst 1, 1) := by decide +kernel
theorem dX1_startAsking_12 : decode cX1_startAsking 12 = .ok (.putfield 31, 3) := by decide +kernel
theorem dX1_startAsking_15 : decode cX1_startAsking 15 = .ok (.aload_n 0, 1) := by decide +kernel
theorem dX1_startAsking_16 : decode cX1_startAsking 16 = .ok (.iconst 0, 1) := by decide +kernel
theorem dX1_startAsking_17 : decode cX1_startAsking 17 = .ok (.putfield 34, 3) := by decide +kernel
theorem dX1_startAsking_20 : decode cX1_startAsking 20 = .ok (.aload_n 0, 1) := by decide +kernel
theorem dX1_startAsking_21 : decode cX1_startAsking 21 = .ok (.getfield 15, 3) := by decide +kernel
theorem dX1_startAsking_24 : decode cX1_startAsking 24 = .ok (.iconst 0, 1) := by decide +kernel
theorem dX1_startAsking_25 : decode cX1_startAsking 25 = .ok (.invokestatic 37, 3) := by decide +kernel
theorem dX1_startAsking_28 : decode cX1_startAsking 28 = .ok (.return_, 1) := by decide +kernel
theorem dX1_keeps_0 : decode cX1_keeps 0 = .ok (.aload_n 0, 1) := by decide +kernel
theorem dX1_keeps_1 : decode cX1_keeps 1 = .ok (.getfield 31, 3) := by decide +kernel
theorem dX1_keeps_4 : decode cX1_keeps 4 = .ok (.iconst 1, 1) := by decide +kernel
theorem dX1_keeps_5 : decode cX1_keeps 5 = .ok (.if_icmp .ne 26, 3) := by decide +kernel
theorem dX1_keeps_8 : decode cX1_keeps 8 = .ok (.iload_n 1, 1) := by decide +kernel
theorem dX1_keeps_9 : decode cX1_keeps 9 = .ok (.aload_n 0, 1) := by decide +kernel
theorem dX1_keeps_10 : decode cX1_keeps 10 = .ok (.getfield 25, 3) := by decide +kernel
theorem dX1_keeps_13 : decode cX1_keeps 13 = .ok (.if_icmp .ne 18, 3) := by decide +kernel
theorem dX1_keeps_16 : decode cX1_keeps 16 = .ok (.aload_n 0, 1) := by decide +kernel
theorem dX1_keeps_17 : decode cX1_keeps 17 = .ok (.getfield 34, 3) := by decide +kernel
theorem dX1_keeps_20 : decode cX1_keeps 20 = .ok (.iload_n 2, 1) := by decide +kernel
theorem dX1_keeps_21 : decode cX1_keeps 21 = .ok (.ishr, 1) := by decide +kernel
theorem dX1_keeps_22 : decode cX1_keeps 22 = .ok (.iconst 1, 1) := by decide +kernel
theorem dX1_keeps_23 : decode cX1_keeps 23 = .ok (.iand, 1) := by decide +kernel
theorem dX1_keeps_24 : decode cX1_keeps 24 = .ok (.ifCond .ne 7, 3) := by decide +kernel
theorem dX1_keeps_27 : decode cX1_keeps 27 = .ok (.iconst 1, 1) := by decide +kernel
theorem dX1_keeps_28 : decode cX1_keeps 28 = .ok (.goto 4, 3) := by decide +kernel
theorem dX1_keeps_31 : decode cX1_keeps 31 = .ok (.iconst 0, 1) := by decide +kernel
theorem dX1_keeps_32 : decode cX1_keeps 32 = .ok (.ireturn, 1) := by decide +kernel
theorem dX1_oneMoreIsEnough_0 : decode cX1_oneMoreIsEnough 0 = .ok (.aload_n 0, 1) := by decide +kernel
theorem dX1_oneMoreIsEnough_1 : decode cX1_oneMoreIsEnough 1 = .ok (.getfield 34, 3) := by decide +kernel
theorem dX1_oneMoreIsEnough_4 : decode cX1_oneMoreIsEnough 4 = .ok (.invokestatic 43, 3) := by decide +kernel
theorem dX1_oneMoreIsEnough_7 : decode cX1_oneMoreIsEnough 7 = .ok (.iconst 1, 1) := by decide +kernel
theorem dX1_oneMoreIsEnough_8 : decode cX1_oneMoreIsEnough 8 = .ok (.iadd, 1) := by decide +kernel
theorem dX1_oneMoreIsEnough_9 : decode cX1_oneMoreIsEnough 9 = .ok (.iconst 2, 1) := by decide +kernel
theorem dX1_oneMoreIsEnough_10 : decode cX1_oneMoreIsEnough 10 = .ok (.imul, 1) := by decide +kernel
theorem dX1_oneMoreIsEnough_11 : decode cX1_oneMoreIsEnough 11 = .ok (.aload_n 0, 1) := by decide +kernel
theorem dX1_oneMoreIsEnough_12 : decode cX1_oneMoreIsEnough 12 = .ok (.getfield 9, 3) := by decide +kernel
theorem dX1_oneMoreIsEnough_15 : decode cX1_oneMoreIsEnough 15 = .ok (.if_icmp .le 7, 3) := by decide +kernel
theorem dX1_oneMoreIsEnough_18 : decode cX1_oneMoreIsEnough 18 = .ok (.iconst 1, 1) := by decide +kernel
theorem dX1_oneMoreIsEnough_19 : decode cX1_oneMoreIsEnough 19 = .ok (.goto 4, 3) := by decide +kernel
theorem dX1_oneMoreIsEnough_22 : decode cX1_oneMoreIsEnough 22 = .ok (.iconst 0, 1) := by decide +kernel
theorem dX1_oneMoreIsEnough_23 : decode cX1_oneMoreIsEnough 23 = .ok (.ireturn, 1) := by decide +kernel
theorem dX1_sightOf_0 : decode cX1_sightOf 0 = .ok (.iload_n 1, 1) := by decide +kernel
theorem dX1_sightOf_1 : decode cX1_sightOf 1 = .ok (.aload_n 0, 1) := by decide +kernel
theorem dX1_sightOf_2 : decode cX1_sightOf 2 = .ok (.getfield 9, 3) := by decide +kernel
theorem dX1_sightOf_5 : decode cX1_sightOf 5 = .ok (.imul, 1) := by decide +kernel
theorem dX1_sightOf_6 : decode cX1_sightOf 6 = .ok (.iload_n 2, 1) := by decide +kernel
theorem dX1_sightOf_7 : decode cX1_sightOf 7 = .ok (.iadd, 1) := by decide +kernel
theorem dX1_sightOf_8 : decode cX1_sightOf 8 = .ok (.istore_n 3, 1) := by decide +kernel
theorem dX1_sightOf_9 : decode cX1_sightOf 9 = .ok (.iload_n 3, 1) := by decide +kernel
theorem dX1_sightOf_10 : decode cX1_sightOf 10 = .ok (.ifCond .lt 21, 3) := by decide +kernel
theorem dX1_sightOf_13 : decode cX1_sightOf 13 = .ok (.iload_n 3, 1) := by decide +kernel
theorem dX1_sightOf_14 : decode cX1_sightOf 14 = .ok (.aload_n 0, 1) := by decide +kernel
theorem dX1_sightOf_15 : decode cX1_sightOf 15 = .ok (.getfield 22, 3) := by decide +kernel
theorem dX1_sightOf_18 : decode cX1_sightOf 18 = .ok (.arraylength, 1) := by decide +kernel
theorem dX1_sightOf_19 : decode cX1_sightOf 19 = .ok (.if_icmp .ge 12, 3) := by decide +kernel
theorem dX1_sightOf_22 : decode cX1_sightOf 22 = .ok (.aload_n 0, 1) := by decide +kernel
theorem dX1_sightOf_23 : decode cX1_sightOf 23 = .ok (.getfield 22, 3) := by decide +kernel
theorem dX1_sightOf_26 : decode cX1_sightOf 26 = .ok (.iload_n 3, 1) := by decide +kernel
theorem dX1_sightOf_27 : decode cX1_sightOf 27 = .ok (.iaload, 1) := by decide +kernel
theorem dX1_sightOf_28 : decode cX1_sightOf 28 = .ok (.goto 4, 3) := by decide +kernel
theorem dX1_sightOf_31 : decode cX1_sightOf 31 = .ok (.iconst 0, 1) := by decide +kernel
theorem dX1_sightOf_32 : decode cX1_sightOf 32 = .ok (.ireturn, 1) := by decide +kernel
theorem dX1_decisionWith_0 : decode cX1_decisionWith 0 = .ok (.aload_n 0, 1) := by decide +kernel
theorem dX1_decisionWith_1 : decode cX1_decisionWith 1 = .ok (.getfield 49, 3) := by decide +kernel
theorem dX1_decisionWith_4 : decode cX1_decisionWith 4 = .ok (.ifCond .eq 8, 3) := by decide +kernel
theorem dX1_decisionWith_7 : decode cX1_decisionWith 7 = .ok (.aload_n 0, 1) := by decide +kernel
theorem dX1_decisionWith_8 : decode cX1_decisionWith 8 = .ok (.getfield 49, 3) := by decide +kernel
theorem dX1_decisionWith_11 : decode cX1_decisionWith 11 = .ok (.ireturn, 1) := by decide +kernel
theorem dX1_decisionWith_12 : decode cX1_decisionWith 12 = .ok (.iload_n 2, 1) := by decide +kernel
theorem dX1_decisionWith_13 : decode cX1_decisionWith 13 = .ok (.iconst 1, 1) := by decide +kernel
theorem dX1_decisionWith_14 : decode cX1_decisionWith 14 = .ok (.if_icmp .eq 14, 3) := by decide +kernel
theorem dX1_decisionWith_17 : decode cX1_decisionWith 17 = .ok (.iload_n 2, 1) := by decide +kernel
theorem dX1_decisionWith_18 : decode cX1_decisionWith 18 = .ok (.iconst 2, 1) := by decide +kernel
theorem dX1_decisionWith_19 : decode cX1_decisionWith 19 = .ok (.if_icmp .ne 7, 3) := by decide +kernel
theorem dX1_decisionWith_22 : decode cX1_decisionWith 22 = .ok (.iconst 2, 1) := by decide +kernel
theorem dX1_decisionWith_23 : decode cX1_decisionWith 23 = .ok (.goto 4, 3) := by decide +kernel
theorem dX1_decisionWith_26 : decode cX1_decisionWith 26 = .ok (.iconst 0, 1) := by decide +kernel
theorem dX1_decisionWith_27 : decode cX1_decisionWith 27 = .ok (.ireturn, 1) := by decide +kernel
theorem dX1_decisionWith_28 : decode cX1_decisionWith 28 = .ok (.iconst 0, 1) := by decide +kernel
theorem dX1_decisionWith_29 : decode cX1_decisionWith 29 = .ok (.istore_n 3, 1) := by decide +kernel
theorem dX1_decisionWith_30 : decode cX1_decisionWith 30 = .ok (.iload_n 3, 1) := by decide +kernel
theorem dX1_decisionWith_31 : decode cX1_decisionWith 31 = .ok (.aload_n 0, 1) := by decide +kernel
theorem dX1_decisionWith_32 : decode cX1_decisionWith 32 = .ok (.getfield 19, 3) := by decide +kernel
theorem dX1_decisionWith_35 : decode cX1_decisionWith 35 = .ok (.arraylength, 1) := by decide +kernel
theorem dX1_decisionWith_36 : decode cX1_decisionWith 36 = .ok (.if_icmp .ge 26, 3) := by decide +kernel
theorem dX1_decisionWith_39 : decode cX1_decisionWith 39 = .ok (.iload_n 3, 1) := by decide +kernel
theorem dX1_decisionWith_40 : decode cX1_decisionWith 40 = .ok (.iload_n 1, 1) := by decide +kernel
theorem dX1_decisionWith_41 : decode cX1_decisionWith 41 = .ok (.if_icmp .eq 15, 3) := by decide +kernel
theorem dX1_decisionWith_44 : decode cX1_decisionWith 44 = .ok (.aload_n 0, 1) := by decide +kernel
theorem dX1_decisionWith_45 : decode cX1_decisionWith 45 = .ok (.getfield 19, 3) := by decide +kernel
theorem dX1_decisionWith_48 : decode cX1_decisionWith 48 = .ok (.iload_n 3, 1) := by decide +kernel
theorem dX1_decisionWith_49 : decode cX1_decisionWith 49 = .ok (.iaload, 1) := by decide +kernel
theorem dX1_decisionWith_50 : decode cX1_decisionWith 50 = .ok (.iconst 1, 1) := by decide +kernel
theorem dX1_decisionWith_51 : decode cX1_decisionWith 51 = .ok (.if_icmp .eq 5, 3) := by decide +kernel
theorem dX1_decisionWith_54 : decode cX1_decisionWith 54 = .ok (.iconst 0, 1) := by decide +kernel
theorem dX1_decisionWith_55 : decode cX1_decisionWith 55 = .ok (.ireturn, 1) := by decide +kernel
theorem dX1_decisionWith_56 : decode cX1_decisionWith 56 = .ok (.iinc 3 1, 3) := by decide +kernel
theorem dX1_decisionWith_59 : decode cX1_decisionWith 59 = .ok (.goto (-29), 3) := by decide +kernel
theorem dX1_decisionWith_62 : decode cX1_decisionWith 62 = .ok (.iconst 1, 1) := by decide +kernel
theorem dX1_decisionWith_63 : decode cX1_decisionWith 63 = .ok (.ireturn, 1) := by decide +kernel
theorem dX1_see_0 : decode cX1_see 0 = .ok (.iload_n 1, 1) := by decide +kernel
theorem dX1_see_1 : decode cX1_see 1 = .ok (.aload_n 0, 1) := by decide +kernel
theorem dX1_see_2 : decode cX1_see 2 = .ok (.getfield 9, 3) := by decide +kernel
theorem dX1_see_5 : decode cX1_see 5 = .ok (.imul, 1) := by decide +kernel
theorem dX1_see_6 : decode cX1_see 6 = .ok (.iload_n 2, 1) := by decide +kernel
theorem dX1_see_7 : decode cX1_see 7 = .ok (.iadd, 1) := by decide +kernel
theorem dX1_see_8 : decode cX1_see 8 = .ok (.istore 4, 2) := by decide +kernel
theorem dX1_see_10 : decode cX1_see 10 = .ok (.iload_n 1, 1) := by decide +kernel
theorem dX1_see_11 : decode cX1_see 11 = .ok (.ifCond .lt 27, 3) := by decide +kernel
theorem dX1_see_14 : decode cX1_see 14 = .ok (.iload_n 1, 1) := by decide +kernel
theorem dX1_see_15 : decode cX1_see 15 = .ok (.aload_n 0, 1) := by decide +kernel
theorem dX1_see_16 : decode cX1_see 16 = .ok (.getfield 19, 3) := by decide +kernel
theorem dX1_see_19 : decode cX1_see 19 = .ok (.arraylength, 1) := by decide +kernel
theorem dX1_see_20 : decode cX1_see 20 = .ok (.if_icmp .ge 18, 3) := by decide +kernel
theorem dX1_see_23 : decode cX1_see 23 = .ok (.iload 4, 2) := by decide +kernel
theorem dX1_see_25 : decode cX1_see 25 = .ok (.ifCond .lt 13, 3) := by decide +kernel
theorem dX1_see_28 : decode cX1_see 28 = .ok (.iload 4, 2) := by decide +kernel
theorem dX1_see_30 : decode cX1_see 30 = .ok (.aload_n 0, 1) := by decide +kernel
theorem dX1_see_31 : decode cX1_see 31 = .ok (.getfield 22, 3) := by decide +kernel
theorem dX1_see_34 : decode cX1_see 34 = .ok (.arraylength, 1) := by decide +kernel
theorem dX1_see_35 : decode cX1_see 35 = .ok (.if_icmp .lt 4, 3) := by decide +kernel
theorem dX1_see_38 : decode cX1_see 38 = .ok (.return_, 1) := by decide +kernel
theorem dX1_see_39 : decode cX1_see 39 = .ok (.aload_n 0, 1) := by decide +kernel
theorem dX1_see_40 : decode cX1_see 40 = .ok (.getfield 19, 3) := by decide +kernel
theorem dX1_see_43 : decode cX1_see 43 = .ok (.iload_n 1, 1) := by decide +kernel
theorem dX1_see_44 : decode cX1_see 44 = .ok (.aload_n 0, 1) := by decide +kernel
theorem dX1_see_45 : decode cX1_see 45 = .ok (.iload_n 1, 1) := by decide +kernel
theorem dX1_see_46 : decode cX1_see 46 = .ok (.iload_n 2, 1) := by decide +kernel
theorem dX1_see_47 : decode cX1_see 47 = .ok (.iload_n 3, 1) := by decide +kernel
theorem dX1_see_48 : decode cX1_see 48 = .ok (.invokevirtual 52, 3) := by decide +kernel
theorem dX1_see_51 : decode cX1_see 51 = .ok (.iastore, 1) := by decide +kernel
theorem dX1_see_52 : decode cX1_see 52 = .ok (.aload_n 0, 1) := by decide +kernel
theorem dX1_see_53 : decode cX1_see 53 = .ok (.aload_n 0, 1) := by decide +kernel
theorem dX1_see_54 : decode cX1_see 54 = .ok (.iload_n 1, 1) := by decide +kernel
theorem dX1_see_55 : decode cX1_see 55 = .ok (.aload_n 0, 1) := by decide +kernel
theorem dX1_see_56 : decode cX1_see 56 = .ok (.getfield 19, 3) := by decide +kernel
theorem dX1_see_59 : decode cX1_see 59 = .ok (.iload_n 1, 1) := by decide +kernel
theorem dX1_see_60 : decode cX1_see 60 = .ok (.iaload, 1) := by decide +kernel
theorem dX1_see_61 : decode cX1_see 61 = .ok (.invokevirtual 56, 3) := by decide +kernel
theorem dX1_see_64 : decode cX1_see 64 = .ok (.putfield 49, 3) := by decide +kernel
theorem dX1_see_67 : decode cX1_see 67 = .ok (.iload_n 3, 1) := by decide +kernel
theorem dX1_see_68 : decode cX1_see 68 = .ok (.invokestatic 60, 3) := by decide +kernel
theorem dX1_see_71 : decode cX1_see 71 = .ok (.aload_n 0, 1) := by decide +kernel
theorem dX1_see_72 : decode cX1_see 72 = .ok (.getfield 22, 3) := by decide +kernel
theorem dX1_see_75 : decode cX1_see 75 = .ok (.iload 4, 2) := by decide +kernel
theorem dX1_see_77 : decode cX1_see 77 = .ok (.iaload, 1) := by decide +kernel
theorem dX1_see_78 : decode cX1_see 78 = .ok (.invokestatic 60, 3) := by decide +kernel
theorem dX1_see_81 : decode cX1_see 81 = .ok (.if_icmp .le 11, 3) := by decide +kernel
theorem dX1_see_84 : decode cX1_see 84 = .ok (.aload_n 0, 1) := by decide +kernel
theorem dX1_see_85 : decode cX1_see 85 = .ok (.getfield 22, 3) := by decide +kernel
theorem dX1_see_88 : decode cX1_see 88 = .ok (.iload 4, 2) := by decide +kernel
theorem dX1_see_90 : decode cX1_see 90 = .ok (.iload_n 3, 1) := by decide +kernel
theorem dX1_see_91 : decode cX1_see 91 = .ok (.iastore, 1) := by decide +kernel
theorem dX1_see_92 : decode cX1_see 92 = .ok (.return_, 1) := by decide +kernel
theorem dX1_outcomeAfter_0 : decode cX1_outcomeAfter 0 = .ok (.iload_n 1, 1) := by decide +kernel
theorem dX1_outcomeAfter_1 : decode cX1_outcomeAfter 1 = .ok (.ifCond .lt 12, 3) := by decide +kernel
theorem dX1_outcomeAfter_4 : decode cX1_outcomeAfter 4 = .ok (.iload_n 1, 1) := by decide +kernel
theorem dX1_outcomeAfter_5 : decode cX1_outcomeAfter 5 = .ok (.aload_n 0, 1) := by decide +kernel
theorem dX1_outcomeAfter_6 : decode cX1_outcomeAfter 6 = .ok (.getfield 19, 3) := by decide +kernel
theorem dX1_outcomeAfter_9 : decode cX1_outcomeAfter 9 = .ok (.arraylength, 1) := by decide +kernel
theorem dX1_outcomeAfter_10 : decode cX1_outcomeAfter 10 = .ok (.if_icmp .lt 5, 3) := by decide +kernel
theorem dX1_outcomeAfter_13 : decode cX1_outcomeAfter 13 = .ok (.iconst 0, 1) := by decide +kernel
theorem dX1_outcomeAfter_14 : decode cX1_outcomeAfter 14 = .ok (.ireturn, 1) := by decide +kernel
theorem dX1_outcomeAfter_15 : decode cX1_outcomeAfter 15 = .ok (.aload_n 0, 1) := by decide +kernel
theorem dX1_outcomeAfter_16 : decode cX1_outcomeAfter 16 = .ok (.getfield 19, 3) := by decide +kernel
theorem dX1_outcomeAfter_19 : decode cX1_outcomeAfter 19 = .ok (.iload_n 1, 1) := by decide +kernel
theorem dX1_outcomeAfter_20 : decode cX1_outcomeAfter 20 = .ok (.iaload, 1) := by decide +kernel
theorem dX1_outcomeAfter_21 : decode cX1_outcomeAfter 21 = .ok (.ifCond .ne 19, 3) := by decide +kernel
theorem dX1_outcomeAfter_24 : decode cX1_outcomeAfter 24 = .ok (.iload_n 3, 1) := by decide +kernel
theorem dX1_outcomeAfter_25 : decode cX1_outcomeAfter 25 = .ok (.invokestatic 60, 3) := by decide +kernel
theorem dX1_outcomeAfter_28 : decode cX1_outcomeAfter 28 = .ok (.aload_n 0, 1) := by decide +kernel
theorem dX1_outcomeAfter_29 : decode cX1_outcomeAfter 29 = .ok (.iload_n 1, 1) := by decide +kernel
theorem dX1_outcomeAfter_30 : decode cX1_outcomeAfter 30 = .ok (.iload_n 2, 1) := by decide +kernel
theorem dX1_outcomeAfter_31 : decode cX1_outcomeAfter 31 = .ok (.invokevirtual 63, 3) := by decide +kernel
theorem dX1_outcomeAfter_34 : decode cX1_outcomeAfter 34 = .ok (.invokestatic 60, 3) := by decide +kernel
theorem dX1_outcomeAfter_37 : decode cX1_outcomeAfter 37 = .ok (.if_icmp .gt 10, 3) := by decide +kernel
theorem dX1_outcomeAfter_40 : decode cX1_outcomeAfter 40 = .ok (.aload_n 0, 1) := by decide +kernel
theorem dX1_outcomeAfter_41 : decode cX1_outcomeAfter 41 = .ok (.getfield 19, 3) := by decide +kernel
theorem dX1_outcomeAfter_44 : decode cX1_outcomeAfter 44 = .ok (.iload_n 1, 1) := by decide +kernel
theorem dX1_outcomeAfter_45 : decode cX1_outcomeAfter 45 = .ok (.iaload, 1) := by decide +kernel
theorem dX1_outcomeAfter_46 : decode cX1_outcomeAfter 46 = .ok (.ireturn, 1) := by decide +kernel
theorem dX1_outcomeAfter_47 : decode cX1_outcomeAfter 47 = .ok (.iconst 1, 1) := by decide +kernel
theorem dX1_outcomeAfter_48 : decode cX1_outcomeAfter 48 = .ok (.istore 4, 2) := by decide +kernel
theorem dX1_outcomeAfter_50 : decode cX1_outcomeAfter 50 = .ok (.iconst 0, 1) := by decide +kernel
theorem dX1_outcomeAfter_51 : decode cX1_outcomeAfter 51 = .ok (.istore 5, 2) := by decide +kernel
theorem dX1_outcomeAfter_53 : decode cX1_outcomeAfter 53 = .ok (.iload 5, 2) := by decide +kernel
theorem dX1_outcomeAfter_55 : decode cX1_outcomeAfter 55 = .ok (.aload_n 0, 1) := by decide +kernel
theorem dX1_outcomeAfter_56 : decode cX1_outcomeAfter 56 = .ok (.getfield 9, 3) := by decide +kernel
theorem dX1_outcomeAfter_59 : decode cX1_outcomeAfter 59 = .ok (.if_icmp .ge 35, 3) := by decide +kernel
theorem dX1_outcomeAfter_62 : decode cX1_outcomeAfter 62 = .ok (.iload 5, 2) := by decide +kernel
theorem dX1_outcomeAfter_64 : decode cX1_outcomeAfter 64 = .ok (.iload_n 2, 1) := by decide +kernel
theorem dX1_outcomeAfter_65 : decode cX1_outcomeAfter 65 = .ok (.if_icmp .eq 23, 3) := by decide +kernel
theorem dX1_outcomeAfter_68 : decode cX1_outcomeAfter 68 = .ok (.aload_n 0, 1) := by decide +kernel
theorem dX1_outcomeAfter_69 : decode cX1_outcomeAfter 69 = .ok (.iload_n 1, 1) := by decide +kernel
theorem dX1_outcomeAfter_70 : decode cX1_outcomeAfter 70 = .ok (.iload 5, 2) := by decide +kernel
theorem dX1_outcomeAfter_72 : decode cX1_outcomeAfter 72 = .ok (.invokevirtual 63, 3) := by decide +kernel
theorem dX1_outcomeAfter_75 : decode cX1_outcomeAfter 75 = .ok (.invokestatic 60, 3) := by decide +kernel
theorem dX1_outcomeAfter_78 : decode cX1_outcomeAfter 78 = .ok (.iload_n 3, 1) := by decide +kernel
theorem dX1_outcomeAfter_79 : decode cX1_outcomeAfter 79 = .ok (.invokestatic 60, 3) := by decide +kernel
theorem dX1_outcomeAfter_82 : decode cX1_outcomeAfter 82 = .ok (.if_icmp .ne 6, 3) := by decide +kernel
theorem dX1_outcomeAfter_85 : decode cX1_outcomeAfter 85 = .ok (.iinc 4 1, 3) := by decide +kernel
theorem dX1_outcomeAfter_88 : decode cX1_outcomeAfter 88 = .ok (.iinc 5 1, 3) := by decide +kernel
theorem dX1_outcomeAfter_91 : decode cX1_outcomeAfter 91 = .ok (.goto (-38), 3) := by decide +kernel
theorem dX1_outcomeAfter_94 : decode cX1_outcomeAfter 94 = .ok (.iload 4, 2) := by decide +kernel
theorem dX1_outcomeAfter_96 : decode cX1_outcomeAfter 96 = .ok (.iconst 2, 1) := by decide +kernel
theorem dX1_outcomeAfter_97 : decode cX1_outcomeAfter 97 = .ok (.imul, 1) := by decide +kernel
theorem dX1_outcomeAfter_98 : decode cX1_outcomeAfter 98 = .ok (.aload_n 0, 1) := by decide +kernel
theorem dX1_outcomeAfter_99 : decode cX1_outcomeAfter 99 = .ok (.getfield 9, 3) := by decide +kernel
theorem dX1_outcomeAfter_102 : decode cX1_outcomeAfter 102 = .ok (.if_icmp .le 10, 3) := by decide +kernel
theorem dX1_outcomeAfter_105 : decode cX1_outcomeAfter 105 = .ok (.iload_n 3, 1) := by decide +kernel
theorem dX1_outcomeAfter_106 : decode cX1_outcomeAfter 106 = .ok (.invokestatic 66, 3) := by decide +kernel
theorem dX1_outcomeAfter_109 : decode cX1_outcomeAfter 109 = .ok (.goto 4, 3) := by decide +kernel
theorem dX1_outcomeAfter_112 : decode cX1_outcomeAfter 112 = .ok (.iconst 0, 1) := by decide +kernel
theorem dX1_outcomeAfter_113 : decode cX1_outcomeAfter 113 = .ok (.ireturn, 1) := by decide +kernel
theorem dX1_forget_0 : decode cX1_forget 0 = .ok (.aload_n 0, 1) := by decide +kernel
theorem dX1_forget_1 : decode cX1_forget 1 = .ok (.iconst 0, 1) := by decide +kernel
theorem dX1_forget_2 : decode cX1_forget 2 = .ok (.putfield 31, 3) := by decide +kernel
theorem dX1_forget_5 : decode cX1_forget 5 = .ok (.aload_n 0, 1) := by decide +kernel
theorem dX1_forget_6 : decode cX1_forget 6 = .ok (.iconst 0, 1) := by decide +kernel
theorem dX1_forget_7 : decode cX1_forget 7 = .ok (.putfield 49, 3) := by decide +kernel
theorem dX1_forget_10 : decode cX1_forget 10 = .ok (.aload_n 0, 1) := by decide +kernel
theorem dX1_forget_11 : decode cX1_forget 11 = .ok (.iconst 0, 1) := by decide +kernel
theorem dX1_forget_12 : decode cX1_forget 12 = .ok (.putfield 34, 3) := by decide +kernel
theorem dX1_forget_15 : decode cX1_forget 15 = .ok (.aload_n 0, 1) := by decide +kernel
theorem dX1_forget_16 : decode cX1_forget 16 = .ok (.getfield 15, 3) := by decide +kernel
theorem dX1_forget_19 : decode cX1_forget 19 = .ok (.iconst 0, 1) := by decide +kernel
theorem dX1_forget_20 : decode cX1_forget 20 = .ok (.invokestatic 37, 3) := by decide +kernel
theorem dX1_forget_23 : decode cX1_forget 23 = .ok (.aload_n 0, 1) := by decide +kernel
theorem dX1_forget_24 : decode cX1_forget 24 = .ok (.getfield 19, 3) := by decide +kernel
theorem dX1_forget_27 : decode cX1_forget 27 = .ok (.iconst 0, 1) := by decide +kernel
theorem dX1_forget_28 : decode cX1_forget 28 = .ok (.invokestatic 37, 3) := by decide +kernel
theorem dX1_forget_31 : decode cX1_forget 31 = .ok (.aload_n 0, 1) := by decide +kernel
theorem dX1_forget_32 : decode cX1_forget 32 = .ok (.getfield 22, 3) := by decide +kernel
theorem dX1_forget_35 : decode cX1_forget 35 = .ok (.iconst 0, 1) := by decide +kernel
theorem dX1_forget_36 : decode cX1_forget 36 = .ok (.invokestatic 37, 3) := by decide +kernel
theorem dX1_forget_39 : decode cX1_forget 39 = .ok (.return_, 1) := by decide +kernel
theorem dX2_init_0 : decode cX2_init 0 = .ok (.aload_n 0, 1) := by decide +kernel
theorem dX2_init_1 : decode cX2_init 1 = .ok (.invokespecial 3, 3) := by decide +kernel
theorem dX2_init_4 : decode cX2_init 4 = .ok (.aload_n 0, 1) := by decide +kernel
theorem dX2_init_5 : decode cX2_init 5 = .ok (.iload_n 2, 1) := by decide +kernel
theorem dX2_init_6 : decode cX2_init 6 = .ok (.putfield 9, 3) := by decide +kernel
theorem dX2_init_9 : decode cX2_init 9 = .ok (.aload_n 0, 1) := by decide +kernel
theorem dX2_init_10 : decode cX2_init 10 = .ok (.iload_n 1, 1) := by decide +kernel
theorem dX2_init_11 : decode cX2_init 11 = .ok (.newarray .int, 2) := by decide +kernel
theorem dX2_init_13 : decode cX2_init 13 = .ok (.putfield 15, 3) := by decide +kernel
theorem dX2_init_16 : decode cX2_init 16 = .ok (.aload_n 0, 1) := by decide +kernel
theorem dX2_init_17 : decode cX2_init 17 = .ok (.iload_n 1, 1) := by decide +kernel
theorem dX2_init_18 : decode cX2_init 18 = .ok (.newarray .boolean, 2) := by decide +kernel
theorem dX2_init_20 : decode cX2_init 20 = .ok (.putfield 19, 3) := by decide +kernel
theorem dX2_init_23 : decode cX2_init 23 = .ok (.aload_n 0, 1) := by decide +kernel
theorem dX2_init_24 : decode cX2_init 24 = .ok (.sipush 1537, 3) := by decide +kernel
theorem dX2_init_27 : decode cX2_init 27 = .ok (.newarray .int, 2) := by decide +kernel
theorem dX2_init_29 : decode cX2_init 29 = .ok (.putfield 23, 3) := by decide +kernel
theorem dX2_init_32 : decode cX2_init 32 = .ok (.return_, 1) := by decide +kernel
theorem dX2_enter_0 : decode cX2_enter 0 = .ok (.iload_n 1, 1) := by decide +kernel
theorem dX2_enter_1 : decode cX2_enter 1 = .ok (.ifCond .lt 25, 3) := by decide +kernel
theorem dX2_enter_4 : decode cX2_enter 4 = .ok (.iload_n 1, 1) := by decide +kernel
theorem dX2_enter_5 : decode cX2_enter 5 = .ok (.aload_n 0, 1) := by decide +kernel
theorem dX2_enter_6 : decode cX2_enter 6 = .ok (.getfield 15, 3) := by decide +kernel
theorem dX2_enter_9 : decode cX2_enter 9 = .ok (.arraylength, 1) := by decide +kernel
theorem dX2_enter_10 : decode cX2_enter 10 = .ok (.if_icmp .ge 16, 3) := by decide +kernel
theorem dX2_enter_13 : decode cX2_enter 13 = .ok (.iload_n 2, 1) := by decide +kernel
theorem dX2_enter_14 : decode cX2_enter 14 = .ok (.ifCond .lt 12, 3) := by decide +kernel
theorem dX2_enter_17 : decode cX2_enter 17 = .ok (.iload_n 2, 1) := by decide +kernel
theorem dX2_enter_18 : decode cX2_enter 18 = .ok (.aload_n 0, 1) := by decide +kernel
theorem dX2_enter_19 : decode cX2_enter 19 = .ok (.getfield 23, 3) := by decide +kernel
theorem dX2_enter_22 : decode cX2_enter 22 = .ok (.arraylength, 1) := by decide +kernel
theorem dX2_enter_23 : decode cX2_enter 23 = .ok (.if_icmp .lt 4, 3) := by decide +kernel
theorem dX2_enter_26 : decode cX2_enter 26 = .ok (.return_, 1) := by decide +kernel
theorem dX2_enter_27 : decode cX2_enter 27 = .ok (.iload_n 1, 1) := by decide +kernel
theorem dX2_enter_28 : decode cX2_enter 28 = .ok (.iconst 5, 1) := by decide +kernel
theorem dX2_enter_29 : decode cX2_enter 29 = .ok (.imul, 1) := by decide +kernel
theorem dX2_enter_30 : decode cX2_enter 30 = .ok (.istore 5, 2) := by decide +kernel
theorem dX2_enter_32 : decode cX2_enter 32 = .ok (.aload_n 0, 1) := by decide +kernel
theorem dX2_enter_33 : decode cX2_enter 33 = .ok (.getfield 23, 3) := by decide +kernel
theorem dX2_enter_36 : decode cX2_enter 36 = .ok (.iload_n 2, 1) := by decide +kernel
theorem dX2_enter_37 : decode cX2_enter 37 = .ok (.dup2, 1) := by decide +kernel
theorem dX2_enter_38 : decode cX2_enter 38 = .ok (.iaload, 1) := by decide +kernel
theorem dX2_enter_39 : decode cX2_enter 39 = .ok (.iconst 1, 1) := by decide +kernel
theorem dX2_enter_40 : decode cX2_enter 40 = .ok (.iload 5, 2) := by decide +kernel
theorem dX2_enter_42 : decode cX2_enter 42 = .ok (.iload 4, 2) := by decide +kernel
theorem dX2_enter_44 : decode cX2_enter 44 = .ok (.iadd, 1) := by decide +kernel
theorem dX2_enter_45 : decode cX2_enter 45 = .ok (.ishl, 1) := by decide +kernel
theorem dX2_enter_46 : decode cX2_enter 46 = .ok (.ior, 1) := by decide +kernel
theorem dX2_enter_47 : decode cX2_enter 47 = .ok (.iastore, 1) := by decide +kernel
theorem dX2_enter_48 : decode cX2_enter 48 = .ok (.aload_n 0, 1) := by decide +kernel
theorem dX2_enter_49 : decode cX2_enter 49 = .ok (.getfield 23, 3) := by decide +kernel
theorem dX2_enter_52 : decode cX2_enter 52 = .ok (.iload_n 2, 1) := by decide +kernel
theorem dX2_enter_53 : decode cX2_enter 53 = .ok (.iaload, 1) := by decide +kernel
theorem dX2_enter_54 : decode cX2_enter 54 = .ok (.iload 5, 2) := by decide +kernel
theorem dX2_enter_56 : decode cX2_enter 56 = .ok (.ishr, 1) := by decide +kernel
theorem dX2_enter_57 : decode cX2_enter 57 = .ok (.bipush 31, 2) := by decide +kernel
theorem dX2_enter_59 : decode cX2_enter 59 = .ok (.iand, 1) := by decide +kernel
theorem dX2_enter_60 : decode cX2_enter 60 = .ok (.invokestatic 26, 3) := by decide +kernel
theorem dX2_enter_63 : decode cX2_enter 63 = .ok (.istore 6, 2) := by decide +kernel
theorem dX2_enter_65 : decode cX2_enter 65 = .ok (.iload 6, 2) := by decide +kernel
theorem dX2_enter_67 : decode cX2_enter 67 = .ok (.iconst 2, 1) := by decide +kernel
theorem dX2_enter_68 : decode cX2_enter 68 = .ok (.imul, 1) := by decide +kernel
theorem dX2_enter_69 : decode cX2_enter 69 = .ok (.aload_n 0, 1) := by decide +kernel
theorem dX2_enter_70 : decode cX2_enter 70 = .ok (.getfield 9, 3) := by decide +kernel
theorem dX2_enter_73 : decode cX2_enter 73 = .ok (.if_icmp .gt 4, 3) := by decide +kernel
theorem dX2_enter_76 : decode cX2_enter 76 = .ok (.return_, 1) := by decide +kernel
theorem dX2_enter_77 : decode cX2_enter 77 = .ok (.aload_n 0, 1) := by decide +kernel
theorem dX2_enter_78 : decode cX2_enter 78 = .ok (.getfield 15, 3) := by decide +kernel
theorem dX2_enter_81 : decode cX2_enter 81 = .ok (.iload_n 1, 1) := by decide +kernel
theorem dX2_enter_82 : decode cX2_enter 82 = .ok (.iaload, 1) := by decide +kernel
theorem dX2_enter_83 : decode cX2_enter 83 = .ok (.ifCond .ne 13, 3) := by decide +kernel
theorem dX2_enter_86 : decode cX2_enter 86 = .ok (.aload_n 0, 1) := by decide +kernel
theorem dX2_enter_87 : decode cX2_enter 87 = .ok (.getfield 15, 3) := by decide +kernel
theorem dX2_enter_90 : decode cX2_enter 90 = .ok (.iload_n 1, 1) := by decide +kernel
theorem dX2_enter_91 : decode cX2_enter 91 = .ok (.iload_n 3, 1) := by decide +kernel
theorem dX2_enter_92 : decode cX2_enter 92 = .ok (.iastore, 1) := by decide +kernel
theorem dX2_enter_93 : decode cX2_enter 93 = .ok (.goto 20, 3) := by decide +kernel
theorem dX2_enter_96 : decode cX2_enter 96 = .ok (.aload_n 0, 1) := by decide +kernel
theorem dX2_enter_97 : decode cX2_enter 97 = .ok (.getfield 15, 3) := by decide +kernel
theorem dX2_enter_100 : decode cX2_enter 100 = .ok (.iload_n 1, 1) := by decide +kernel
theorem dX2_enter_101 : decode cX2_enter 101 = .ok (.iaload, 1) := by decide +kernel
theorem dX2_enter_102 : decode cX2_enter 102 = .ok (.iload_n 3, 1) := by decide +kernel
theorem dX2_enter_103 : decode cX2_enter 103 = .ok (.if_icmp .eq 10, 3) := by decide +kernel
theorem dX2_enter_106 : decode cX2_enter 106 = .ok (.aload_n 0, 1) := by decide +kernel
theorem dX2_enter_107 : decode cX2_enter 107 = .ok (.getfield 19, 3) := by decide +kernel
theorem dX2_enter_110 : decode cX2_enter 110 = .ok (.iload_n 1, 1) := by decide +kernel
theorem dX2_enter_111 : decode cX2_enter 111 = .ok (.iconst 1, 1) := by decide +kernel
theorem dX2_enter_112 : decode cX2_enter 112 = .ok (.bastore, 1) := by decide +kernel
theorem dX2_enter_113 : decode cX2_enter 113 = .ok (.return_, 1) := by decide +kernel
theorem dX3_init_0 : decode cX3_init 0 = .ok (.aload_n 0, 1) := by decide +kernel
theorem dX3_init_1 : decode cX3_init 1 = .ok (.invokespecial 5, 3) := by decide +kernel
theorem dX3_init_4 : decode cX3_init 4 = .ok (.aload_n 0, 1) := by decide +kernel
theorem dX3_init_5 : decode cX3_init 5 = .ok (.bipush 6, 2) := by decide +kernel
theorem dX3_init_7 : decode cX3_init 7 = .ok (.iload_n 1, 1) := by decide +kernel
theorem dX3_init_8 : decode cX3_init 8 = .ok (.iadd, 1) := by decide +kernel
theorem dX3_init_9 : decode cX3_init 9 = .ok (.putfield 11, 3) := by decide +kernel
theorem dX3_init_12 : decode cX3_init 12 = .ok (.aload_n 0, 1) := by decide +kernel
theorem dX3_init_13 : decode cX3_init 13 = .ok (.sipush 401, 3) := by decide +kernel
theorem dX3_init_16 : decode cX3_init 16 = .ok (.aload_n 0, 1) := by decide +kernel
theorem dX3_init_17 : decode cX3_init 17 = .ok (.getfield 11, 3) := by decide +kernel
theorem dX3_init_20 : decode cX3_init 20 = .ok (.imul, 1) := by decide +kernel
theorem dX3_init_21 : decode cX3_init 21 = .ok (.newarray .int, 2) := by decide +kernel
theorem dX3_init_23 : decode cX3_init 23 = .ok (.putfield 15, 3) := by decide +kernel
theorem dX3_init_26 : decode cX3_init 26 = .ok (.return_, 1) := by decide +kernel
theorem dX3_hasRoomFor_0 : decode cX3_hasRoomFor 0 = .ok (.aload_n 0, 1) := by decide +kernel
theorem dX3_hasRoomFor_1 : decode cX3_hasRoomFor 1 = .ok (.getfield 19, 3) := by decide +kernel
theorem dX3_hasRoomFor_4 : decode cX3_hasRoomFor 4 = .ok (.iload_n 1, 1) := by decide +kernel
theorem dX3_hasRoomFor_5 : decode cX3_hasRoomFor 5 = .ok (.iadd, 1) := by decide +kernel
theorem dX3_hasRoomFor_6 : decode cX3_hasRoomFor 6 = .ok (.sipush 400, 3) := by decide +kernel
theorem dX3_hasRoomFor_9 : decode cX3_hasRoomFor 9 = .ok (.if_icmp .gt 7, 3) := by decide +kernel
theorem dX3_hasRoomFor_12 : decode cX3_hasRoomFor 12 = .ok (.iconst 1, 1) := by decide +kernel
theorem dX3_hasRoomFor_13 : decode cX3_hasRoomFor 13 = .ok (.goto 4, 3) := by decide +kernel
theorem dX3_hasRoomFor_16 : decode cX3_hasRoomFor 16 = .ok (.iconst 0, 1) := by decide +kernel
theorem dX3_hasRoomFor_17 : decode cX3_hasRoomFor 17 = .ok (.ireturn, 1) := by decide +kernel
theorem dX3_send_0 : decode cX3_send 0 = .ok (.aload_n 0, 1) := by decide +kernel
theorem dX3_send_1 : decode cX3_send 1 = .ok (.getfield 19, 3) := by decide +kernel
theorem dX3_send_4 : decode cX3_send 4 = .ok (.sipush 401, 3) := by decide +kernel
theorem dX3_send_7 : decode cX3_send 7 = .ok (.if_icmp .lt 4, 3) := by decide +kernel
theorem dX3_send_10 : decode cX3_send 10 = .ok (.return_, 1) := by decide +kernel
theorem dX3_send_11 : decode cX3_send 11 = .ok (.aload_n 0, 1) := by decide +kernel
theorem dX3_send_12 : decode cX3_send 12 = .ok (.getfield 19, 3) := by decide +kernel
theorem dX3_send_15 : decode cX3_send 15 = .ok (.aload_n 0, 1) := by decide +kernel
theorem dX3_send_16 : decode cX3_send 16 = .ok (.getfield 11, 3) := by decide +kernel
theorem dX3_send_19 : decode cX3_send 19 = .ok (.imul, 1) := by decide +kernel
theorem dX3_send_20 : decode cX3_send 20 = .ok (.istore 7, 2) := by decide +kernel
theorem dX3_send_22 : decode cX3_send 22 = .ok (.aload_n 0, 1) := by decide +kernel
theorem dX3_send_23 : decode cX3_send 23 = .ok (.getfield 15, 3) := by decide +kernel
theorem dX3_send_26 : decode cX3_send 26 = .ok (.iload 7, 2) := by decide +kernel
theorem dX3_send_28 : decode cX3_send 28 = .ok (.iconst 0, 1) := by decide +kernel
theorem dX3_send_29 : decode cX3_send 29 = .ok (.iadd, 1) := by decide +kernel
theorem dX3_send_30 : decode cX3_send 30 = .ok (.iload_n 1, 1) := by decide +kernel
theorem dX3_send_31 : decode cX3_send 31 = .ok (.iastore, 1) := by decide +kernel
theorem dX3_send_32 : decode cX3_send 32 = .ok (.aload_n 0, 1) := by decide +kernel
theorem dX3_send_33 : decode cX3_send 33 = .ok (.getfield 15, 3) := by decide +kernel
theorem dX3_send_36 : decode cX3_send 36 = .ok (.iload 7, 2) := by decide +kernel
theorem dX3_send_38 : decode cX3_send 38 = .ok (.iconst 1, 1) := by decide +kernel
theorem dX3_send_39 : decode cX3_send 39 = .ok (.iadd, 1) := by decide +kernel
theorem dX3_send_40 : decode cX3_send 40 = .ok (.iload_n 2, 1) := by decide +kernel
theorem dX3_send_41 : decode cX3_send 41 = .ok (.iastore, 1) := by decide +kernel
theorem dX3_send_42 : decode cX3_send 42 = .ok (.aload_n 0, 1) := by decide +kernel
theorem dX3_send_43 : decode cX3_send 43 = .ok (.getfield 15, 3) := by decide +kernel
theorem dX3_send_46 : decode cX3_send 46 = .ok (.iload 7, 2) := by decide +kernel
theorem dX3_send_48 : decode cX3_send 48 = .ok (.iconst 2, 1) := by decide +kernel
theorem dX3_send_49 : decode cX3_send 49 = .ok (.iadd, 1) := by decide +kernel
theorem dX3_send_50 : decode cX3_send 50 = .ok (.iload_n 3, 1) := by decide +kernel
theorem dX3_send_51 : decode cX3_send 51 = .ok (.iastore, 1) := by decide +kernel
theorem dX3_send_52 : decode cX3_send 52 = .ok (.aload_n 0, 1) := by decide +kernel
theorem dX3_send_53 : decode cX3_send 53 = .ok (.getfield 15, 3) := by decide +kernel
theorem dX3_send_56 : decode cX3_send 56 = .ok (.iload 7, 2) := by decide +kernel
theorem dX3_send_58 : decode cX3_send 58 = .ok (.iconst 3, 1) := by decide +kernel
theorem dX3_send_59 : decode cX3_send 59 = .ok (.iadd, 1) := by decide +kernel
theorem dX3_send_60 : decode cX3_send 60 = .ok (.iload 4, 2) := by decide +kernel
theorem dX3_send_62 : decode cX3_send 62 = .ok (.iastore, 1) := by decide +kernel
theorem dX3_send_63 : decode cX3_send 63 = .ok (.aload_n 0, 1) := by decide +kernel
theorem dX3_send_64 : decode cX3_send 64 = .ok (.getfield 15, 3) := by decide +kernel
theorem dX3_send_67 : decode cX3_send 67 = .ok (.iload 7, 2) := by decide +kernel
theorem dX3_send_69 : decode cX3_send 69 = .ok (.iconst 4, 1) := by decide +kernel
theorem dX3_send_70 : decode cX3_send 70 = .ok (.iadd, 1) := by decide +kernel
theorem dX3_send_71 : decode cX3_send 71 = .ok (.iload 5, 2) := by decide +kernel
theorem dX3_send_73 : decode cX3_send 73 = .ok (.iastore, 1) := by decide +kernel
theorem dX3_send_74 : decode cX3_send 74 = .ok (.aload_n 0, 1) := by decide +kernel
theorem dX3_send_75 : decode cX3_send 75 = .ok (.getfield 15, 3) := by decide +kernel
theorem dX3_send_78 : decode cX3_send 78 = .ok (.iload 7, 2) := by decide +kernel
theorem dX3_send_80 : decode cX3_send 80 = .ok (.iconst 5, 1) := by decide +kernel
theorem dX3_send_81 : decode cX3_send 81 = .ok (.iadd, 1) := by decide +kernel
theorem dX3_send_82 : decode cX3_send 82 = .ok (.iload 6, 2) := by decide +kernel
theorem dX3_send_84 : decode cX3_send 84 = .ok (.iastore, 1) := by decide +kernel
theorem dX3_send_85 : decode cX3_send 85 = .ok (.aload_n 0, 1) := by decide +kernel
theorem dX3_send_86 : decode cX3_send 86 = .ok (.dup, 1) := by decide +kernel
theorem dX3_send_87 : decode cX3_send 87 = .ok (.getfield 19, 3) := by decide +kernel
theorem dX3_send_90 : decode cX3_send 90 = .ok (.iconst 1, 1) := by decide +kernel
theorem dX3_send_91 : decode cX3_send 91 = .ok (.iadd, 1) := by decide +kernel
theorem dX3_send_92 : decode cX3_send 92 = .ok (.putfield 19, 3) := by decide +kernel
theorem dX3_send_95 : decode cX3_send 95 = .ok (.aload_n 0, 1) := by decide +kernel
theorem dX3_send_96 : decode cX3_send 96 = .ok (.dup, 1) := by decide +kernel
theorem dX3_send_97 : decode cX3_send 97 = .ok (.getfield 22, 3) := by decide +kernel
theorem dX3_send_100 : decode cX3_send 100 = .ok (.iconst 1, 1) := by decide +kernel
theorem dX3_send_101 : decode cX3_send 101 = .ok (.iadd, 1) := by decide +kernel
theorem dX3_send_102 : decode cX3_send 102 = .ok (.putfield 22, 3) := by decide +kernel
theorem dX3_send_105 : decode cX3_send 105 = .ok (.return_, 1) := by decide +kernel
theorem dX3_attach_0 : decode cX3_attach 0 = .ok (.aload_n 0, 1) := by decide +kernel
theorem dX3_attach_1 : decode cX3_attach 1 = .ok (.getfield 19, 3) := by decide +kernel
theorem dX3_attach_4 : decode cX3_attach 4 = .ok (.ifCond .le 40, 3) := by decide +kernel
theorem dX3_attach_7 : decode cX3_attach 7 = .ok (.aload_n 1, 1) := by decide +kernel
theorem dX3_attach_8 : decode cX3_attach 8 = .ok (.arraylength, 1) := by decide +kernel
theorem dX3_attach_9 : decode cX3_attach 9 = .ok (.aload_n 0, 1) := by decide +kernel
theorem dX3_attach_10 : decode cX3_attach 10 = .ok (.getfield 11, 3) := by decide +kernel
theorem dX3_attach_13 : decode cX3_attach 13 = .ok (.bipush 6, 2) := by decide +kernel
theorem dX3_attach_15 : decode cX3_attach 15 = .ok (.isub, 1) := by decide +kernel
theorem dX3_attach_16 : decode cX3_attach 16 = .ok (.if_icmp .gt 28, 3) := by decide +kernel
theorem dX3_attach_19 : decode cX3_attach 19 = .ok (.aload_n 1, 1) := by decide +kernel
theorem dX3_attach_20 : decode cX3_attach 20 = .ok (.iconst 0, 1) := by decide +kernel
theorem dX3_attach_21 : decode cX3_attach 21 = .ok (.aload_n 0, 1) := by decide +kernel
theorem dX3_attach_22 : decode cX3_attach 22 = .ok (.getfield 15, 3) := by decide +kernel
theorem dX3_attach_25 : decode cX3_attach 25 = .ok (.aload_n 0, 1) := by decide +kernel
theorem dX3_attach_26 : decode cX3_attach 26 = .ok (.getfield 19, 3) := by decide +kernel
theorem dX3_attach_29 : decode cX3_attach 29 = .ok (.iconst 1, 1) := by decide +kernel
theorem dX3_attach_30 : decode cX3_attach 30 = .ok (.isub, 1) := by decide +kernel
theorem dX3_attach_31 : decode cX3_attach 31 = .ok (.aload_n 0, 1) := by decide +kernel
theorem dX3_attach_32 : decode cX3_attach 32 = .ok (.getfield 11, 3) := by decide +kernel
theorem dX3_attach_35 : decode cX3_attach 35 = .ok (.imul, 1) := by decide +kernel
theorem dX3_attach_36 : decode cX3_attach 36 = .ok (.bipush 6, 2) := by decide +kernel
theorem dX3_attach_38 : decode cX3_attach 38 = .ok (.iadd, 1) := by decide +kernel
theorem dX3_attach_39 : decode cX3_attach 39 = .ok (.aload_n 1, 1) := by decide +kernel
theorem dX3_attach_40 : decode cX3_attach 40 = .ok (.arraylength, 1) := by decide +kernel
theorem dX3_attach_41 : decode cX3_attach 41 = .ok (.invokestatic 25, 3) := by decide +kernel
theorem dX3_attach_44 : decode cX3_attach 44 = .ok (.return_, 1) := by decide +kernel
theorem dX3_sendLike_0 : decode cX3_sendLike 0 = .ok (.iload_n 1, 1) := by decide +kernel
theorem dX3_sendLike_1 : decode cX3_sendLike 1 = .ok (.ifCond .lt 21, 3) := by decide +kernel
theorem dX3_sendLike_4 : decode cX3_sendLike 4 = .ok (.iload_n 1, 1) := by decide +kernel
theorem dX3_sendLike_5 : decode cX3_sendLike 5 = .ok (.aload_n 0, 1) := by decide +kernel
theorem dX3_sendLike_6 : decode cX3_sendLike 6 = .ok (.getfield 19, 3) := by decide +kernel
theorem dX3_sendLike_9 : decode cX3_sendLike 9 = .ok (.if_icmp .ge 13, 3) := by decide +kernel
theorem dX3_sendLike_12 : decode cX3_sendLike 12 = .ok (.aload_n 0, 1) := by decide +kernel
theorem dX3_sendLike_13 : decode cX3_sendLike 13 = .ok (.getfield 19, 3) := by decide +kernel
theorem dX3_sendLike_16 : decode cX3_sendLike 16 = .ok (.sipush 401, 3) := by decide +kernel
theorem dX3_sendLike_19 : decode cX3_sendLike 19 = .ok (.if_icmp .lt 4, 3) := by decide +kernel
theorem dX3_sendLike_22 : decode cX3_sendLike 22 = .ok (.return_, 1) := by decide +kernel
theorem dX3_sendLike_23 : decode cX3_sendLike 23 = .ok (.aload_n 0, 1) := by decide +kernel
theorem dX3_sendLike_24 : decode cX3_sendLike 24 = .ok (.getfield 15, 3) := by decide +kernel
theorem dX3_sendLike_27 : decode cX3_sendLike 27 = .ok (.iload_n 1, 1) := by decide +kernel
theorem dX3_sendLike_28 : decode cX3_sendLike 28 = .ok (.aload_n 0, 1) := by decide +kernel
theorem dX3_sendLike_29 : decode cX3_sendLike 29 = .ok (.getfield 11, 3) := by decide +kernel
theorem dX3_sendLike_32 : decode cX3_sendLike 32 = .ok (.imul, 1) := by decide +kernel
theorem dX3_sendLike_33 : decode cX3_sendLike 33 = .ok (.aload_n 0, 1) := by decide +kernel
theorem dX3_sendLike_34 : decode cX3_sendLike 34 = .ok (.getfield 15, 3) := by decide +kernel
theorem dX3_sendLike_37 : decode cX3_sendLike 37 = .ok (.aload_n 0, 1) := by decide +kernel
theorem dX3_sendLike_38 : decode cX3_sendLike 38 = .ok (.getfield 19, 3) := by decide +kernel
theorem dX3_sendLike_41 : decode cX3_sendLike 41 = .ok (.aload_n 0, 1) := by decide +kernel
theorem dX3_sendLike_42 : decode cX3_sendLike 42 = .ok (.getfield 11, 3) := by decide +kernel
theorem dX3_sendLike_45 : decode cX3_sendLike 45 = .ok (.imul, 1) := by decide +kernel
theorem dX3_sendLike_46 : decode cX3_sendLike 46 = .ok (.aload_n 0, 1) := by decide +kernel
theorem dX3_sendLike_47 : decode cX3_sendLike 47 = .ok (.getfield 11, 3) := by decide +kernel
theorem dX3_sendLike_50 : decode cX3_sendLike 50 = .ok (.invokestatic 25, 3) := by decide +kernel
theorem dX3_sendLike_53 : decode cX3_sendLike 53 = .ok (.aload_n 0, 1) := by decide +kernel
theorem dX3_sendLike_54 : decode cX3_sendLike 54 = .ok (.dup, 1) := by decide +kernel
theorem dX3_sendLike_55 : decode cX3_sendLike 55 = .ok (.getfield 19, 3) := by decide +kernel
theorem dX3_sendLike_58 : decode cX3_sendLike 58 = .ok (.iconst 1, 1) := by decide +kernel
theorem dX3_sendLike_59 : decode cX3_sendLike 59 = .ok (.iadd, 1) := by decide +kernel
theorem dX3_sendLike_60 : decode cX3_sendLike 60 = .ok (.putfield 19, 3) := by decide +kernel
theorem dX3_sendLike_63 : decode cX3_sendLike 63 = .ok (.aload_n 0, 1) := by decide +kernel
theorem dX3_sendLike_64 : decode cX3_sendLike 64 = .ok (.dup, 1) := by decide +kernel
theorem dX3_sendLike_65 : decode cX3_sendLike 65 = .ok (.getfield 22, 3) := by decide +kernel
theorem dX3_sendLike_68 : decode cX3_sendLike 68 = .ok (.iconst 1, 1) := by decide +kernel
theorem dX3_sendLike_69 : decode cX3_sendLike 69 = .ok (.iadd, 1) := by decide +kernel
theorem dX3_sendLike_70 : decode cX3_sendLike 70 = .ok (.putfield 22, 3) := by decide +kernel
theorem dX3_sendLike_73 : decode cX3_sendLike 73 = .ok (.return_, 1) := by decide +kernel
theorem dX3_remove_0 : decode cX3_remove 0 = .ok (.iload_n 1, 1) := by decide +kernel
theorem dX3_remove_1 : decode cX3_remove 1 = .ok (.ifCond .lt 11, 3) := by decide +kernel
theorem dX3_remove_4 : decode cX3_remove 4 = .ok (.iload_n 1, 1) := by decide +kernel
theorem dX3_remove_5 : decode cX3_remove 5 = .ok (.aload_n 0, 1) := by decide +kernel
theorem dX3_remove_6 : decode cX3_remove 6 = .ok (.getfield 19, 3) := by decide +kernel
theorem dX3_remove_9 : decode cX3_remove 9 = .ok (.if_icmp .lt 4, 3) := by decide +kernel
theorem dX3_remove_12 : decode cX3_remove 12 = .ok (.return_, 1) := by decide +kernel
theorem dX3_remove_13 : decode cX3_remove 13 = .ok (.aload_n 0, 1) := by decide +kernel
theorem dX3_remove_14 : decode cX3_remove 14 = .ok (.getfield 15, 3) := by decide +kernel
theorem dX3_remove_17 : decode cX3_remove 17 = .ok (.iload_n 1, 1) := by decide +kernel
theorem dX3_remove_18 : decode cX3_remove 18 = .ok (.iconst 1, 1) := by decide +kernel
theorem dX3_remove_19 : decode cX3_remove 19 = .ok (.iadd, 1) := by decide +kernel
theorem dX3_remove_20 : decode cX3_remove 20 = .ok (.aload_n 0, 1) := by decide +kernel
theorem dX3_remove_21 : decode cX3_remove 21 = .ok (.getfield 11, 3) := by decide +kernel
theorem dX3_remove_24 : decode cX3_remove 24 = .ok (.imul, 1) := by decide +kernel
theorem dX3_remove_25 : decode cX3_remove 25 = .ok (.aload_n 0, 1) := by decide +kernel
theorem dX3_remove_26 : decode cX3_remove 26 = .ok (.getfield 15, 3) := by decide +kernel
theorem dX3_remove_29 : decode cX3_remove 29 = .ok (.iload_n 1, 1) := by decide +kernel
theorem dX3_remove_30 : decode cX3_remove 30 = .ok (.aload_n 0, 1) := by decide +kernel
theorem dX3_remove_31 : decode cX3_remove 31 = .ok (.getfield 11, 3) := by decide +kernel
theorem dX3_remove_34 : decode cX3_remove 34 = .ok (.imul, 1) := by decide +kernel
theorem dX3_remove_35 : decode cX3_remove 35 = .ok (.aload_n 0, 1) := by decide +kernel
theorem dX3_remove_36 : decode cX3_remove 36 = .ok (.getfield 19, 3) := by decide +kernel
theorem dX3_remove_39 : decode cX3_remove 39 = .ok (.iconst 1, 1) := by decide +kernel
theorem dX3_remove_40 : decode cX3_remove 40 = .ok (.isub, 1) := by decide +kernel
theorem dX3_remove_41 : decode cX3_remove 41 = .ok (.iload_n 1, 1) := by decide +kernel
theorem dX3_remove_42 : decode cX3_remove 42 = .ok (.isub, 1) := by decide +kernel
theorem dX3_remove_43 : decode cX3_remove 43 = .ok (.aload_n 0, 1) := by decide +kernel
theorem dX3_remove_44 : decode cX3_remove 44 = .ok (.getfield 11, 3) := by decide +kernel
theorem dX3_remove_47 : decode cX3_remove 47 = .ok (.imul, 1) := by decide +kernel
theorem dX3_remove_48 : decode cX3_remove 48 = .ok (.invokestatic 25, 3) := by decide +kernel
theorem dX3_remove_51 : decode cX3_remove 51 = .ok (.aload_n 0, 1) := by decide +kernel
theorem dX3_remove_52 : decode cX3_remove 52 = .ok (.dup, 1) := by decide +kernel
theorem dX3_remove_53 : decode cX3_remove 53 = .ok (.getfield 19, 3) := by decide +kernel
theorem dX3_remove_56 : decode cX3_remove 56 = .ok (.iconst 1, 1) := by decide +kernel
theorem dX3_remove_57 : decode cX3_remove 57 = .ok (.isub, 1) := by decide +kernel
theorem dX3_remove_58 : decode cX3_remove 58 = .ok (.putfield 19, 3) := by decide +kernel
theorem dX3_remove_61 : decode cX3_remove 61 = .ok (.return_, 1) := by decide +kernel
theorem dX3_part_0 : decode cX3_part 0 = .ok (.iload_n 1, 1) := by decide +kernel
theorem dX3_part_1 : decode cX3_part 1 = .ok (.ifCond .lt 21, 3) := by decide +kernel
theorem dX3_part_4 : decode cX3_part 4 = .ok (.iload_n 1, 1) := by decide +kernel
theorem dX3_part_5 : decode cX3_part 5 = .ok (.aload_n 0, 1) := by decide +kernel
theorem dX3_part_6 : decode cX3_part 6 = .ok (.getfield 19, 3) := by decide +kernel
theorem dX3_part_9 : decode cX3_part 9 = .ok (.if_icmp .ge 13, 3) := by decide +kernel
theorem dX3_part_12 : decode cX3_part 12 = .ok (.iload_n 2, 1) := by decide +kernel
theorem dX3_part_13 : decode cX3_part 13 = .ok (.ifCond .lt 9, 3) := by decide +kernel
theorem dX3_part_16 : decode cX3_part 16 = .ok (.iload_n 2, 1) := by decide +kernel
theorem dX3_part_17 : decode cX3_part 17 = .ok (.bipush 6, 2) := by decide +kernel
theorem dX3_part_19 : decode cX3_part 19 = .ok (.if_icmp .lt 5, 3) := by decide +kernel
theorem dX3_part_22 : decode cX3_part 22 = .ok (.iconst (-1), 1) := by decide +kernel
theorem dX3_part_23 : decode cX3_part 23 = .ok (.ireturn, 1) := by decide +kernel
theorem dX3_part_24 : decode cX3_part 24 = .ok (.aload_n 0, 1) := by decide +kernel
theorem dX3_part_25 : decode cX3_part 25 = .ok (.getfield 15, 3) := by decide +kernel
theorem dX3_part_28 : decode cX3_part 28 = .ok (.iload_n 1, 1) := by decide +kernel
theorem dX3_part_29 : decode cX3_part 29 = .ok (.aload_n 0, 1) := by decide +kernel
theorem dX3_part_30 : decode cX3_part 30 = .ok (.getfield 11, 3) := by decide +kernel
theorem dX3_part_33 : decode cX3_part 33 = .ok (.imul, 1) := by decide +kernel
theorem dX3_part_34 : decode cX3_part 34 = .ok (.iload_n 2, 1) := by decide +kernel
theorem dX3_part_35 : decode cX3_part 35 = .ok (.iadd, 1) := by decide +kernel
theorem dX3_part_36 : decode cX3_part 36 = .ok (.iaload, 1) := by decide +kernel
theorem dX3_part_37 : decode cX3_part 37 = .ok (.ireturn, 1) := by decide +kernel
theorem dX3_tidings_0 : decode cX3_tidings 0 = .ok (.iload_n 1, 1) := by decide +kernel
theorem dX3_tidings_1 : decode cX3_tidings 1 = .ok (.ifCond .lt 26, 3) := by decide +kernel
theorem dX3_tidings_4 : decode cX3_tidings 4 = .ok (.iload_n 1, 1) := by decide +kernel
theorem dX3_tidings_5 : decode cX3_tidings 5 = .ok (.aload_n 0, 1) := by decide +kernel
theorem dX3_tidings_6 : decode cX3_tidings 6 = .ok (.getfield 19, 3) := by decide +kernel
theorem dX3_tidings_9 : decode cX3_tidings 9 = .ok (.if_icmp .ge 18, 3) := by decide +kernel
theorem dX3_tidings_12 : decode cX3_tidings 12 = .ok (.iload_n 2, 1) := by decide +kernel
theorem dX3_tidings_13 : decode cX3_tidings 13 = .ok (.ifCond .lt 14, 3) := by decide +kernel
theorem dX3_tidings_16 : decode cX3_tidings 16 = .ok (.iload_n 2, 1) := by decide +kernel
theorem dX3_tidings_17 : decode cX3_tidings 17 = .ok (.aload_n 0, 1) := by decide +kernel
theorem dX3_tidings_18 : decode cX3_tidings 18 = .ok (.getfield 11, 3) := by decide +kernel
theorem dX3_tidings_21 : decode cX3_tidings 21 = .ok (.bipush 6, 2) := by decide +kernel
theorem dX3_tidings_23 : decode cX3_tidings 23 = .ok (.isub, 1) := by decide +kernel
theorem dX3_tidings_24 : decode cX3_tidings 24 = .ok (.if_icmp .lt 5, 3) := by decide +kernel
theorem dX3_tidings_27 : decode cX3_tidings 27 = .ok (.iconst 0, 1) := by decide +kernel
theorem dX3_tidings_28 : decode cX3_tidings 28 = .ok (.ireturn, 1) := by decide +kernel
theorem dX3_tidings_29 : decode cX3_tidings 29 = .ok (.aload_n 0, 1) := by decide +kernel
theorem dX3_tidings_30 : decode cX3_tidings 30 = .ok (.getfield 15, 3) := by decide +kernel
theorem dX3_tidings_33 : decode cX3_tidings 33 = .ok (.iload_n 1, 1) := by decide +kernel
theorem dX3_tidings_34 : decode cX3_tidings 34 = .ok (.aload_n 0, 1) := by decide +kernel
theorem dX3_tidings_35 : decode cX3_tidings 35 = .ok (.getfield 11, 3) := by decide +kernel
theorem dX3_tidings_38 : decode cX3_tidings 38 = .ok (.imul, 1) := by decide +kernel
theorem dX3_tidings_39 : decode cX3_tidings 39 = .ok (.bipush 6, 2) := by decide +kernel
theorem dX3_tidings_41 : decode cX3_tidings 41 = .ok (.iadd, 1) := by decide +kernel
theorem dX3_tidings_42 : decode cX3_tidings 42 = .ok (.iload_n 2, 1) := by decide +kernel
theorem dX3_tidings_43 : decode cX3_tidings 43 = .ok (.iadd, 1) := by decide +kernel
theorem dX3_tidings_44 : decode cX3_tidings 44 = .ok (.iaload, 1) := by decide +kernel
theorem dX3_tidings_45 : decode cX3_tidings 45 = .ok (.ireturn, 1) := by decide +kernel
theorem dX4_init_0 : decode cX4_init 0 = .ok (.aload_n 0, 1) := by decide +kernel
theorem dX4_init_1 : decode cX4_init 1 = .ok (.invokespecial 1, 3) := by decide +kernel
theorem dX4_init_4 : decode cX4_init 4 = .ok (.aload_n 0, 1) := by decide +kernel
theorem dX4_init_5 : decode cX4_init 5 = .ok (.iconst 0, 1) := by decide +kernel
theorem dX4_init_6 : decode cX4_init 6 = .ok (.putfield 9, 3) := by decide +kernel
theorem dX4_init_9 : decode cX4_init 9 = .ok (.return_, 1) := by decide +kernel
theorem dX5_init_0 : decode cX5_init 0 = .ok (.aload_n 0, 1) := by decide +kernel
theorem dX5_init_1 : decode cX5_init 1 = .ok (.invokespecial 1, 3) := by decide +kernel
theorem dX5_init_4 : decode cX5_init 4 = .ok (.aload_n 0, 1) := by decide +kernel
theorem dX5_init_5 : decode cX5_init 5 = .ok (.iconst 1, 1) := by decide +kernel
theorem dX5_init_6 : decode cX5_init 6 = .ok (.putfield 7, 3) := by decide +kernel
theorem dX5_init_9 : decode cX5_init 9 = .ok (.return_, 1) := by decide +kernel
theorem dX5_forget_0 : decode cX5_forget 0 = .ok (.return_, 1) := by decide +kernel
theorem dX6_init_0 : decode cX6_init 0 = .ok (.aload_n 0, 1) := by decide +kernel
theorem dX6_init_1 : decode cX6_init 1 = .ok (.invokespecial 1, 3) := by decide +kernel
theorem dX6_init_4 : decode cX6_init 4 = .ok (.iload_n 1, 1) := by decide +kernel
theorem dX6_init_5 : decode cX6_init 5 = .ok (.iconst 1, 1) := by decide +kernel
theorem dX6_init_6 : decode cX6_init 6 = .ok (.if_icmp .lt 13, 3) := by decide +kernel
theorem dX6_init_9 : decode cX6_init 9 = .ok (.iload_n 1, 1) := by decide +kernel
theorem dX6_init_10 : decode cX6_init 10 = .ok (.bipush 6, 2) := by decide +kernel
theorem dX6_init_12 : decode cX6_init 12 = .ok (.if_icmp .gt 7, 3) := by decide +kernel
theorem dX6_init_15 : decode cX6_init 15 = .ok (.iload_n 1, 1) := by decide +kernel
theorem dX6_init_16 : decode cX6_init 16 = .ok (.goto 4, 3) := by decide +kernel
theorem dX6_init_19 : decode cX6_init 19 = .ok (.iconst 3, 1) := by decide +kernel
theorem dX6_init_20 : decode cX6_init 20 = .ok (.istore_n 3, 1) := by decide +kernel
theorem dX6_init_21 : decode cX6_init 21 = .ok (.iload_n 2, 1) := by decide +kernel
theorem dX6_init_22 : decode cX6_init 22 = .ok (.iconst 2, 1) := by decide +kernel
theorem dX6_init_23 : decode cX6_init 23 = .ok (.if_icmp .ne 7, 3) := by decide +kernel
theorem dX6_init_26 : decode cX6_init 26 = .ok (.iconst 5, 1) := by decide +kernel
theorem dX6_init_27 : decode cX6_init 27 = .ok (.goto 4, 3) := by decide +kernel
theorem dX6_init_30 : decode cX6_init 30 = .ok (.iconst 3, 1) := by decide +kernel
theorem dX6_init_31 : decode cX6_init 31 = .ok (.istore 4, 2) := by decide +kernel
theorem dX6_init_33 : decode cX6_init 33 = .ok (.aload_n 0, 1) := by decide +kernel
theorem dX6_init_34 : decode cX6_init 34 = .ok (.iload_n 3, 1) := by decide +kernel
theorem dX6_init_35 : decode cX6_init 35 = .ok (.anewarray 9, 3) := by decide +kernel
theorem dX6_init_38 : decode cX6_init 38 = .ok (.putfield 11, 3) := by decide +kernel
theorem dX6_init_41 : decode cX6_init 41 = .ok (.iconst 0, 1) := by decide +kernel
theorem dX6_init_42 : decode cX6_init 42 = .ok (.istore 5, 2) := by decide +kernel
theorem dX6_init_44 : decode cX6_init 44 = .ok (.iload 5, 2) := by decide +kernel
theorem dX6_init_46 : decode cX6_init 46 = .ok (.iload_n 3, 1) := by decide +kernel
theorem dX6_init_47 : decode cX6_init 47 = .ok (.if_icmp .ge 23, 3) := by decide +kernel
theorem dX6_init_50 : decode cX6_init 50 = .ok (.aload_n 0, 1) := by decide +kernel
theorem dX6_init_51 : decode cX6_init 51 = .ok (.getfield 11, 3) := by decide +kernel
theorem dX6_init_54 : decode cX6_init 54 = .ok (.iload 5, 2) := by decide +kernel
theorem dX6_init_56 : decode cX6_init 56 = .ok (.new 9, 3) := by decide +kernel
theorem dX6_init_59 : decode cX6_init 59 = .ok (.dup, 1) := by decide +kernel
theorem dX6_init_60 : decode cX6_init 60 = .ok (.invokespecial 15, 3) := by decide +kernel
theorem dX6_init_63 : decode cX6_init 63 = .ok (.aastore, 1) := by decide +kernel
theorem dX6_init_64 : decode cX6_init 64 = .ok (.iinc 5 1, 3) := by decide +kernel
theorem dX6_init_67 : decode cX6_init 67 = .ok (.goto (-23), 3) := by decide +kernel
theorem dX6_init_70 : decode cX6_init 70 = .ok (.aload_n 0, 1) := by decide +kernel
theorem dX6_init_71 : decode cX6_init 71 = .ok (.iload 4, 2) := by decide +kernel
theorem dX6_init_73 : decode cX6_init 73 = .ok (.anewarray 16, 3) := by decide +kernel
theorem dX6_init_76 : decode cX6_init 76 = .ok (.putfield 18, 3) := by decide +kernel
theorem dX6_init_79 : decode cX6_init 79 = .ok (.iconst 0, 1) := by decide +kernel
theorem dX6_init_80 : decode cX6_init 80 = .ok (.istore 5, 2) := by decide +kernel
theorem dX6_init_82 : decode cX6_init 82 = .ok (.iload 5, 2) := by decide +kernel
theorem dX6_init_84 : decode cX6_init 84 = .ok (.iload 4, 2) := by decide +kernel
theorem dX6_init_86 : decode cX6_init 86 = .ok (.if_icmp .ge 24, 3) := by decide +kernel
theorem dX6_init_89 : decode cX6_init 89 = .ok (.aload_n 0, 1) := by decide +kernel
theorem dX6_init_90 : decode cX6_init 90 = .ok (.getfield 18, 3) := by decide +kernel
theorem dX6_init_93 : decode cX6_init 93 = .ok (.iload 5, 2) := by decide +kernel
theorem dX6_init_95 : decode cX6_init 95 = .ok (.new 16, 3) := by decide +kernel
theorem dX6_init_98 : decode cX6_init 98 = .ok (.dup, 1) := by decide +kernel
theorem dX6_init_99 : decode cX6_init 99 = .ok (.iload_n 3, 1) := by decide +kernel
theorem dX6_init_100 : decode cX6_init 100 = .ok (.invokespecial 22, 3) := by decide +kernel
theorem dX6_init_103 : decode cX6_init 103 = .ok (.aastore, 1) := by decide +kernel
theorem dX6_init_104 : decode cX6_init 104 = .ok (.iinc 5 1, 3) := by decide +kernel
theorem dX6_init_107 : decode cX6_init 107 = .ok (.goto (-25), 3) := by decide +kernel
theorem dX6_init_110 : decode cX6_init 110 = .ok (.aload_n 0, 1) := by decide +kernel
theorem dX6_init_111 : decode cX6_init 111 = .ok (.iconst 3, 1) := by decide +kernel
theorem dX6_init_112 : decode cX6_init 112 = .ok (.anewarray 25, 3) := by decide +kernel
theorem dX6_init_115 : decode cX6_init 115 = .ok (.putfield 27, 3) := by decide +kernel
theorem dX6_init_118 : decode cX6_init 118 = .ok (.iconst 0, 1) := by decide +kernel
theorem dX6_init_119 : decode cX6_init 119 = .ok (.istore 5, 2) := by decide +kernel
theorem dX6_init_121 : decode cX6_init 121 = .ok (.iload 5, 2) := by decide +kernel
theorem dX6_init_123 : decode cX6_init 123 = .ok (.iconst 3, 1) := by decide +kernel
theorem dX6_init_124 : decode cX6_init 124 = .ok (.if_icmp .ge 26, 3) := by decide +kernel
theorem dX6_init_127 : decode cX6_init 127 = .ok (.aload_n 0, 1) := by decide +kernel
theorem dX6_init_128 : decode cX6_init 128 = .ok (.getfield 27, 3) := by decide +kernel
theorem dX6_init_131 : decode cX6_init 131 = .ok (.iload 5, 2) := by decide +kernel
theorem dX6_init_133 : decode cX6_init 133 = .ok (.new 25, 3) := by decide +kernel
theorem dX6_init_136 : decode cX6_init 136 = .ok (.dup, 1) := by decide +kernel
theorem dX6_init_137 : decode cX6_init 137 = .ok (.iload_n 3, 1) := by decide +kernel
theorem dX6_init_138 : decode cX6_init 138 = .ok (.iload 4, 2) := by decide +kernel
theorem dX6_init_140 : decode cX6_init 140 = .ok (.invokespecial 31, 3) := by decide +kernel
theorem dX6_init_143 : decode cX6_init 143 = .ok (.aastore, 1) := by decide +kernel
theorem dX6_init_144 : decode cX6_init 144 = .ok (.iinc 5 1, 3) := by decide +kernel
theorem dX6_init_147 : decode cX6_init 147 = .ok (.goto (-26), 3) := by decide +kernel
theorem dX6_init_150 : decode cX6_init 150 = .ok (.aload_n 0, 1) := by decide +kernel
theorem dX6_init_151 : decode cX6_init 151 = .ok (.new 34, 3) := by decide +kernel
theorem dX6_init_154 : decode cX6_init 154 = .ok (.dup, 1) := by decide +kernel
theorem dX6_init_155 : decode cX6_init 155 = .ok (.iload_n 3, 1) := by decide +kernel
theorem dX6_init_156 : decode cX6_init 156 = .ok (.invokespecial 36, 3) := by decide +kernel
theorem dX6_init_159 : decode cX6_init 159 = .ok (.putfield 37, 3) := by decide +kernel
theorem dX6_init_162 : decode cX6_init 162 = .ok (.aload_n 0, 1) := by decide +kernel
theorem dX6_init_163 : decode cX6_init 163 = .ok (.new 41, 3) := by decide +kernel
theorem dX6_init_166 : decode cX6_init 166 = .ok (.dup, 1) := by decide +kernel
theorem dX6_init_167 : decode cX6_init 167 = .ok (.iload_n 3, 1) := by decide +kernel
theorem dX6_init_168 : decode cX6_init 168 = .ok (.iload 4, 2) := by decide +kernel
theorem dX6_init_170 : decode cX6_init 170 = .ok (.invokespecial 43, 3) := by decide +kernel
theorem dX6_init_173 : decode cX6_init 173 = .ok (.putfield 44, 3) := by decide +kernel
theorem dX6_init_176 : decode cX6_init 176 = .ok (.return_, 1) := by decide +kernel
theorem dX6_prepare_0 : decode cX6_prepare 0 = .ok (.iload_n 1, 1) := by decide +kernel
theorem dX6_prepare_1 : decode cX6_prepare 1 = .ok (.aload_n 0, 1) := by decide +kernel
theorem dX6_prepare_2 : decode cX6_prepare 2 = .ok (.getfield 11, 3) := by decide +kernel
theorem dX6_prepare_5 : decode cX6_prepare 5 = .ok (.arraylength, 1) := by decide +kernel
theorem dX6_prepare_6 : decode cX6_prepare 6 = .ok (.invokestatic 48, 3) := by decide +kernel
theorem dX6_prepare_9 : decode cX6_prepare 9 = .ok (.aload_n 0, 1) := by decide +kernel
theorem dX6_prepare_10 : decode cX6_prepare 10 = .ok (.iload_n 1, 1) := by decide +kernel
theorem dX6_prepare_11 : decode cX6_prepare 11 = .ok (.iconst 1, 1) := by decide +kernel
theorem dX6_prepare_12 : decode cX6_prepare 12 = .ok (.iconst 1, 1) := by decide +kernel
theorem dX6_prepare_13 : decode cX6_prepare 13 = .ok (.invokevirtual 51, 3) := by decide +kernel
theorem dX6_prepare_16 : decode cX6_prepare 16 = .ok (.ireturn, 1) := by decide +kernel
theorem dX6_refuse_0 : decode cX6_refuse 0 = .ok (.iload_n 1, 1) := by decide +kernel
theorem dX6_refuse_1 : decode cX6_refuse 1 = .ok (.aload_n 0, 1) := by decide +kernel
theorem dX6_refuse_2 : decode cX6_refuse 2 = .ok (.getfield 11, 3) := by decide +kernel
theorem dX6_refuse_5 : decode cX6_refuse 5 = .ok (.arraylength, 1) := by decide +kernel
theorem dX6_refuse_6 : decode cX6_refuse 6 = .ok (.invokestatic 48, 3) := by decide +kernel
theorem dX6_refuse_9 : decode cX6_refuse 9 = .ok (.aload_n 0, 1) := by decide +kernel
theorem dX6_refuse_10 : decode cX6_refuse 10 = .ok (.iload_n 1, 1) := by decide +kernel
theorem dX6_refuse_11 : decode cX6_refuse 11 = .ok (.iconst 2, 1) := by decide +kernel
theorem dX6_refuse_12 : decode cX6_refuse 12 = .ok (.iconst 2, 1) := by decide +kernel
theorem dX6_refuse_13 : decode cX6_refuse 13 = .ok (.invokevirtual 51, 3) := by decide +kernel
theorem dX6_refuse_16 : decode cX6_refuse 16 = .ok (.ireturn, 1) := by decide +kernel
theorem dX6_resend_0 : decode cX6_resend 0 = .ok (.iload_n 1, 1) := by decide +kernel
theorem dX6_resend_1 : decode cX6_resend 1 = .ok (.aload_n 0, 1) := by decide +kernel
theorem dX6_resend_2 : decode cX6_resend 2 = .ok (.getfield 11, 3) := by decide +kernel
theorem dX6_resend_5 : decode cX6_resend 5 = .ok (.arraylength, 1) := by decide +kernel
theorem dX6_resend_6 : decode cX6_resend 6 = .ok (.invokestatic 48, 3) := by decide +kernel
theorem dX6_resend_9 : decode cX6_resend 9 = .ok (.aload_n 0, 1) := by decide +kernel
theorem dX6_resend_10 : decode cX6_resend 10 = .ok (.getfield 11, 3) := by decide +kernel
theorem dX6_resend_13 : decode cX6_resend 13 = .ok (.iload_n 1, 1) := by decide +kernel
theorem dX6_resend_14 : decode cX6_resend 14 = .ok (.aaload, 1) := by decide +kernel
theorem dX6_resend_15 : decode cX6_resend 15 = .ok (.astore_n 2, 1) := by decide +kernel
theorem dX6_resend_16 : decode cX6_resend 16 = .ok (.aload_n 2, 1) := by decide +kernel
theorem dX6_resend_17 : decode cX6_resend 17 = .ok (.getfield 55, 3) := by decide +kernel
theorem dX6_resend_20 : decode cX6_resend 20 = .ok (.iconst 1, 1) := by decide +kernel
theorem dX6_resend_21 : decode cX6_resend 21 = .ok (.if_icmp .eq 11, 3) := by decide +kernel
theorem dX6_resend_24 : decode cX6_resend 24 = .ok (.aload_n 2, 1) := by decide +kernel
theorem dX6_resend_25 : decode cX6_resend 25 = .ok (.getfield 55, 3) := by decide +kernel
theorem dX6_resend_28 : decode cX6_resend 28 = .ok (.iconst 2, 1) := by decide +kernel
theorem dX6_resend_29 : decode cX6_resend 29 = .ok (.if_icmp .ne 7, 3) := by decide +kernel
theorem dX6_resend_32 : decode cX6_resend 32 = .ok (.iconst 1, 1) := by decide +kernel
theorem dX6_resend_33 : decode cX6_resend 33 = .ok (.goto 4, 3) := by decide +kernel
theorem dX6_resend_36 : decode cX6_resend 36 = .ok (.iconst 0, 1) := by decide +kernel
theorem dX6_resend_37 : decode cX6_resend 37 = .ok (.istore_n 3, 1) := by decide +kernel
theorem dX6_resend_38 : decode cX6_resend 38 = .ok (.aload_n 2, 1) := by decide +kernel
theorem dX6_resend_39 : decode cX6_resend 39 = .ok (.getfield 59, 3) := by decide +kernel
theorem dX6_resend_42 : decode cX6_resend 42 = .ok (.ifCond .eq 22, 3) := by decide +kernel
theorem dX6_resend_45 : decode cX6_resend 45 = .ok (.iload_n 3, 1) := by decide +kernel
theorem dX6_resend_46 : decode cX6_resend 46 = .ok (.ifCond .eq 18, 3) := by decide +kernel
theorem dX6_resend_49 : decode cX6_resend 49 = .ok (.aload_n 0, 1) := by decide +kernel
theorem dX6_resend_50 : decode cX6_resend 50 = .ok (.getfield 37, 3) := by decide +kernel
theorem dX6_resend_53 : decode cX6_resend 53 = .ok (.aload_n 0, 1) := by decide +kernel
theorem dX6_resend_54 : decode cX6_resend 54 = .ok (.getfield 18, 3) := by decide +kernel
theorem dX6_resend_57 : decode cX6_resend 57 = .ok (.arraylength, 1) := by decide +kernel
theorem dX6_resend_58 : decode cX6_resend 58 = .ok (.invokevirtual 63, 3) := by decide +kernel
theorem dX6_resend_61 : decode cX6_resend 61 = .ok (.ifCond .ne 5, 3) := by decide +kernel
theorem dX6_resend_64 : decode cX6_resend 64 = .ok (.iconst 0, 1) := by decide +kernel
theorem dX6_resend_65 : decode cX6_resend 65 = .ok (.ireturn, 1) := by decide +kernel
theorem dX6_resend_66 : decode cX6_resend 66 = .ok (.aload_n 0, 1) := by decide +kernel
theorem dX6_resend_67 : decode cX6_resend 67 = .ok (.iload_n 1, 1) := by decide +kernel
theorem dX6_resend_68 : decode cX6_resend 68 = .ok (.iconst 0, 1) := by decide +kernel
theorem dX6_resend_69 : decode cX6_resend 69 = .ok (.aload_n 2, 1) := by decide +kernel
theorem dX6_resend_70 : decode cX6_resend 70 = .ok (.getfield 67, 3) := by decide +kernel
theorem dX6_resend_73 : decode cX6_resend 73 = .ok (.invokevirtual 70, 3) := by decide +kernel
theorem dX6_resend_76 : decode cX6_resend 76 = .ok (.iconst 1, 1) := by decide +kernel
theorem dX6_resend_77 : decode cX6_resend 77 = .ok (.ireturn, 1) := by decide +kernel
theorem dX6_question_0 : decode cX6_question 0 = .ok (.iload_n 1, 1) := by decide +kernel
theorem dX6_question_1 : decode cX6_question 1 = .ok (.aload_n 0, 1) := by decide +kernel
theorem dX6_question_2 : decode cX6_question 2 = .ok (.getfield 11, 3) := by decide +kernel
theorem dX6_question_5 : decode cX6_question 5 = .ok (.arraylength, 1) := by decide +kernel
theorem dX6_question_6 : decode cX6_question 6 = .ok (.invokestatic 48, 3) := by decide +kernel
theorem dX6_question_9 : decode cX6_question 9 = .ok (.aload_n 0, 1) := by decide +kernel
theorem dX6_question_10 : decode cX6_question 10 = .ok (.getfield 11, 3) := by decide +kernel
theorem dX6_question_13 : decode cX6_question 13 = .ok (.iload_n 1, 1) := by decide +kernel
theorem dX6_question_14 : decode cX6_question 14 = .ok (.aaload, 1) := by decide +kernel
theorem dX6_question_15 : decode cX6_question 15 = .ok (.getfield 59, 3) := by decide +kernel
theorem dX6_question_18 : decode cX6_question 18 = .ok (.ifCond .eq 14, 3) := by decide +kernel
theorem dX6_question_21 : decode cX6_question 21 = .ok (.aload_n 0, 1) := by decide +kernel
theorem dX6_question_22 : decode cX6_question 22 = .ok (.getfield 37, 3) := by decide +kernel
theorem dX6_question_25 : decode cX6_question 25 = .ok (.iconst 3, 1) := by decide +kernel
theorem dX6_question_26 : decode cX6_question 26 = .ok (.invokevirtual 63, 3) := by decide +kernel
theorem dX6_question_29 : decode cX6_question 29 = .ok (.ifCond .ne 5, 3) := by decide +kernel
theorem dX6_question_32 : decode cX6_question 32 = .ok (.iconst 0, 1) := by decide +kernel
theorem dX6_question_33 : decode cX6_question 33 = .ok (.ireturn, 1) := by decide +kernel
theorem dX6_question_34 : decode cX6_question 34 = .ok (.iconst 0, 1) := by decide +kernel
theorem dX6_question_35 : decode cX6_question 35 = .ok (.istore_n 2, 1) := by decide +kernel
theorem dX6_question_36 : decode cX6_question 36 = .ok (.iload_n 2, 1) := by decide +kernel
theorem dX6_question_37 : decode cX6_question 37 = .ok (.iconst 3, 1) := by decide +kernel
theorem dX6_question_38 : decode cX6_question 38 = .ok (.if_icmp .ge 22, 3) := by decide +kernel
theorem dX6_question_41 : decode cX6_question 41 = .ok (.aload_n 0, 1) := by decide +kernel
theorem dX6_question_42 : decode cX6_question 42 = .ok (.getfield 37, 3) := by decide +kernel
theorem dX6_question_45 : decode cX6_question 45 = .ok (.iconst 5, 1) := by decide +kernel
theorem dX6_question_46 : decode cX6_question 46 = .ok (.iload_n 2, 1) := by decide +kernel
theorem dX6_question_47 : decode cX6_question 47 = .ok (.iload_n 1, 1) := by decide +kernel
theorem dX6_question_48 : decode cX6_question 48 = .ok (.iconst (-1), 1) := by decide +kernel
theorem dX6_question_49 : decode cX6_question 49 = .ok (.iconst (-1), 1) := by decide +kernel
theorem dX6_question_50 : decode cX6_question 50 = .ok (.iconst (-1), 1) := by decide +kernel
theorem dX6_question_51 : decode cX6_question 51 = .ok (.invokevirtual 74, 3) := by decide +kernel
theorem dX6_question_54 : decode cX6_question 54 = .ok (.iinc 2 1, 3) := by decide +kernel
theorem dX6_question_57 : decode cX6_question 57 = .ok (.goto (-21), 3) := by decide +kernel
theorem dX6_question_60 : decode cX6_question 60 = .ok (.iconst 1, 1) := by decide +kernel
theorem dX6_question_61 : decode cX6_question 61 = .ok (.ireturn, 1) := by decide +kernel
theorem dX6_begin_0 : decode cX6_begin 0 = .ok (.iload_n 1, 1) := by decide +kernel
theorem dX6_begin_1 : decode cX6_begin 1 = .ok (.iconst 3, 1) := by decide +kernel
theorem dX6_begin_2 : decode cX6_begin 2 = .ok (.invokestatic 48, 3) := by decide +kernel
theorem dX6_begin_5 : decode cX6_begin 5 = .ok (.aload_n 0, 1) := by decide +kernel
theorem dX6_begin_6 : decode cX6_begin 6 = .ok (.getfield 27, 3) := by decide +kernel
theorem dX6_begin_9 : decode cX6_begin 9 = .ok (.iload_n 1, 1) := by decide +kernel
theorem dX6_begin_10 : decode cX6_begin 10 = .ok (.aaload, 1) := by decide +kernel
theorem dX6_begin_11 : decode cX6_begin 11 = .ok (.astore_n 2, 1) := by decide +kernel
theorem dX6_begin_12 : decode cX6_begin 12 = .ok (.iload_n 1, 1) := by decide +kernel
theorem dX6_begin_13 : decode cX6_begin 13 = .ok (.aload_n 2, 1) := by decide +kernel
theorem dX6_begin_14 : decode cX6_begin 14 = .ok (.getfield 78, 3) := by decide +kernel
theorem dX6_begin_17 : decode cX6_begin 17 = .ok (.invokestatic 81, 3) := by decide +kernel
theorem dX6_begin_20 : decode cX6_begin 20 = .ok (.istore_n 3, 1) := by decide +kernel
theorem dX6_begin_21 : decode cX6_begin 21 = .ok (.aload_n 0, 1) := by decide +kernel
theorem dX6_begin_22 : decode cX6_begin 22 = .ok (.getfield 18, 3) := by decide +kernel
theorem dX6_begin_25 : decode cX6_begin 25 = .ok (.arraylength, 1) := by decide +kernel
theorem dX6_begin_26 : decode cX6_begin 26 = .ok (.aload_n 2, 1) := by decide +kernel
theorem dX6_begin_27 : decode cX6_begin 27 = .ok (.getfield 85, 3) := by decide +kernel
theorem dX6_begin_30 : decode cX6_begin 30 = .ok (.ifCond .eq 11, 3) := by decide +kernel
theorem dX6_begin_33 : decode cX6_begin 33 = .ok (.aload_n 0, 1) := by decide +kernel
theorem dX6_begin_34 : decode cX6_begin 34 = .ok (.getfield 11, 3) := by decide +kernel
theorem dX6_begin_37 : decode cX6_begin 37 = .ok (.arraylength, 1) := by decide +kernel
theorem dX6_begin_38 : decode cX6_begin 38 = .ok (.goto 4, 3) := by decide +kernel
theorem dX6_begin_41 : decode cX6_begin 41 = .ok (.iconst 0, 1) := by decide +kernel
theorem dX6_begin_42 : decode cX6_begin 42 = .ok (.iadd, 1) := by decide +kernel
theorem dX6_begin_43 : decode cX6_begin 43 = .ok (.istore 4, 2) := by decide +kernel
theorem dX6_begin_45 : decode cX6_begin 45 = .ok (.aload_n 2, 1) := by decide +kernel
theorem dX6_begin_46 : decode cX6_begin 46 = .ok (.getfield 88, 3) := by decide +kernel
theorem dX6_begin_49 : decode cX6_begin 49 = .ok (.ifCond .eq 22, 3) := by decide +kernel
theorem dX6_begin_52 : decode cX6_begin 52 = .ok (.iload_n 3, 1) := by decide +kernel
theorem dX6_begin_53 : decode cX6_begin 53 = .ok (.sipush 1536, 3) := by decide +kernel
theorem dX6_begin_56 : decode cX6_begin 56 = .ok (.if_icmp .gt 15, 3) := by decide +kernel
theorem dX6_begin_59 : decode cX6_begin 59 = .ok (.aload_n 0, 1) := by decide +kernel
theorem dX6_begin_60 : decode cX6_begin 60 = .ok (.getfield 37, 3) := by decide +kernel
theorem dX6_begin_63 : decode cX6_begin 63 = .ok (.iload 4, 2) := by decide +kernel
theorem dX6_begin_65 : decode cX6_begin 65 = .ok (.invokevirtual 63, 3) := by decide +kernel
theorem dX6_begin_68 : decode cX6_begin 68 = .ok (.ifCond .ne 5, 3) := by decide +kernel
theorem dX6_begin_71 : decode cX6_begin 71 = .ok (.iconst (-1), 1) := by decide +kernel
theorem dX6_begin_72 : decode cX6_begin 72 = .ok (.ireturn, 1) := by decide +kernel
theorem dX6_begin_73 : decode cX6_begin 73 = .ok (.aload_n 2, 1) := by decide +kernel
theorem dX6_begin_74 : decode cX6_begin 74 = .ok (.iload_n 3, 1) := by decide +kernel
theorem dX6_begin_75 : decode cX6_begin 75 = .ok (.invokevirtual 89, 3) := by decide +kernel
theorem dX6_begin_78 : decode cX6_begin 78 = .ok (.aload_n 0, 1) := by decide +kernel
theorem dX6_begin_79 : decode cX6_begin 79 = .ok (.dup, 1) := by decide +kernel
theorem dX6_begin_80 : decode cX6_begin 80 = .ok (.getfield 92, 3) := by decide +kernel
theorem dX6_begin_83 : decode cX6_begin 83 = .ok (.iconst 1, 1) := by decide +kernel
theorem dX6_begin_84 : decode cX6_begin 84 = .ok (.iadd, 1) := by decide +kernel
theorem dX6_begin_85 : decode cX6_begin 85 = .ok (.putfield 92, 3) := by decide +kernel
theorem dX6_begin_88 : decode cX6_begin 88 = .ok (.iconst 0, 1) := by decide +kernel
theorem dX6_begin_89 : decode cX6_begin 89 = .ok (.istore 5, 2) := by decide +kernel
theorem dX6_begin_91 : decode cX6_begin 91 = .ok (.iload 5, 2) := by decide +kernel
theorem dX6_begin_93 : decode cX6_begin 93 = .ok (.aload_n 0, 1) := by decide +kernel
theorem dX6_begin_94 : decode cX6_begin 94 = .ok (.getfield 18, 3) := by decide +kernel
theorem dX6_begin_97 : decode cX6_begin 97 = .ok (.arraylength, 1) := by decide +kernel
theorem dX6_begin_98 : decode cX6_begin 98 = .ok (.if_icmp .ge 23, 3) := by decide +kernel
theorem dX6_begin_101 : decode cX6_begin 101 = .ok (.aload_n 0, 1) := by decide +kernel
theorem dX6_begin_102 : decode cX6_begin 102 = .ok (.getfield 37, 3) := by decide +kernel
theorem dX6_begin_105 : decode cX6_begin 105 = .ok (.iconst 2, 1) := by decide +kernel
theorem dX6_begin_106 : decode cX6_begin 106 = .ok (.iload 5, 2) := by decide +kernel
theorem dX6_begin_108 : decode cX6_begin 108 = .ok (.iconst (-1), 1) := by decide +kernel
theorem dX6_begin_109 : decode cX6_begin 109 = .ok (.iconst (-1), 1) := by decide +kernel
theorem dX6_begin_110 : decode cX6_begin 110 = .ok (.iload_n 3, 1) := by decide +kernel
theorem dX6_begin_111 : decode cX6_begin 111 = .ok (.iconst (-1), 1) := by decide +kernel
theorem dX6_begin_112 : decode cX6_begin 112 = .ok (.invokevirtual 74, 3) := by decide +kernel
theorem dX6_begin_115 : decode cX6_begin 115 = .ok (.iinc 5 1, 3) := by decide +kernel
theorem dX6_begin_118 : decode cX6_begin 118 = .ok (.goto (-27), 3) := by decide +kernel
theorem dX6_begin_121 : decode cX6_begin 121 = .ok (.aload_n 2, 1) := by decide +kernel
theorem dX6_begin_122 : decode cX6_begin 122 = .ok (.getfield 85, 3) := by decide +kernel
theorem dX6_begin_125 : decode cX6_begin 125 = .ok (.ifCond .eq 11, 3) := by decide +kernel
theorem dX6_begin_128 : decode cX6_begin 128 = .ok (.aload_n 0, 1) := by decide +kernel
theorem dX6_begin_129 : decode cX6_begin 129 = .ok (.aload_n 2, 1) := by decide +kernel
theorem dX6_begin_130 : decode cX6_begin 130 = .ok (.getfield 85, 3) := by decide +kernel
theorem dX6_begin_133 : decode cX6_begin 133 = .ok (.invokevirtual 95, 3) := by decide +kernel
theorem dX6_begin_136 : decode cX6_begin 136 = .ok (.iload_n 3, 1) := by decide +kernel
theorem dX6_begin_137 : decode cX6_begin 137 = .ok (.ireturn, 1) := by decide +kernel
theorem dX6_deliver_0 : decode cX6_deliver 0 = .ok (.iload_n 1, 1) := by decide +kernel
theorem dX6_deliver_1 : decode cX6_deliver 1 = .ok (.aload_n 0, 1) := by decide +kernel
theorem dX6_deliver_2 : decode cX6_deliver 2 = .ok (.getfield 37, 3) := by decide +kernel
theorem dX6_deliver_5 : decode cX6_deliver 5 = .ok (.getfield 98, 3) := by decide +kernel
theorem dX6_deliver_8 : decode cX6_deliver 8 = .ok (.invokestatic 48, 3) := by decide +kernel
theorem dX6_deliver_11 : decode cX6_deliver 11 = .ok (.aload_n 0, 1) := by decide +kernel
theorem dX6_deliver_12 : decode cX6_deliver 12 = .ok (.iload_n 1, 1) := by decide +kernel
theorem dX6_deliver_13 : decode cX6_deliver 13 = .ok (.invokevirtual 101, 3) := by decide +kernel
theorem dX6_deliver_16 : decode cX6_deliver 16 = .ok (.ireturn, 1) := by decide +kernel
theorem dX6_drop_0 : decode cX6_drop 0 = .ok (.iload_n 1, 1) := by decide +kernel
theorem dX6_drop_1 : decode cX6_drop 1 = .ok (.aload_n 0, 1) := by decide +kernel
theorem dX6_drop_2 : decode cX6_drop 2 = .ok (.getfield 37, 3) := by decide +kernel
theorem dX6_drop_5 : decode cX6_drop 5 = .ok (.getfield 98, 3) := by decide +kernel
theorem dX6_drop_8 : decode cX6_drop 8 = .ok (.invokestatic 48, 3) := by decide +kernel
theorem dX6_drop_11 : decode cX6_drop 11 = .ok (.aload_n 0, 1) := by decide +kernel
theorem dX6_drop_12 : decode cX6_drop 12 = .ok (.getfield 37, 3) := by decide +kernel
theorem dX6_drop_15 : decode cX6_drop 15 = .ok (.iload_n 1, 1) := by decide +kernel
theorem dX6_drop_16 : decode cX6_drop 16 = .ok (.invokevirtual 105, 3) := by decide +kernel
theorem dX6_drop_19 : decode cX6_drop 19 = .ok (.return_, 1) := by decide +kernel
theorem dX6_copy_0 : decode cX6_copy 0 = .ok (.iload_n 1, 1) := by decide +kernel
theorem dX6_copy_1 : decode cX6_copy 1 = .ok (.aload_n 0, 1) := by decide +kernel
theorem dX6_copy_2 : decode cX6_copy 2 = .ok (.getfield 37, 3) := by decide +kernel
theorem dX6_copy_5 : decode cX6_copy 5 = .ok (.getfield 98, 3) := by decide +kernel
theorem dX6_copy_8 : decode cX6_copy 8 = .ok (.invokestatic 48, 3) := by decide +kernel
theorem dX6_copy_11 : decode cX6_copy 11 = .ok (.aload_n 0, 1) := by decide +kernel
theorem dX6_copy_12 : decode cX6_copy 12 = .ok (.getfield 37, 3) := by decide +kernel
theorem dX6_copy_15 : decode cX6_copy 15 = .ok (.iconst 1, 1) := by decide +kernel
theorem dX6_copy_16 : decode cX6_copy 16 = .ok (.invokevirtual 63, 3) := by decide +kernel
theorem dX6_copy_19 : decode cX6_copy 19 = .ok (.ifCond .ne 5, 3) := by decide +kernel
theorem dX6_copy_22 : decode cX6_copy 22 = .ok (.iconst (-1), 1) := by decide +kernel
theorem dX6_copy_23 : decode cX6_copy 23 = .ok (.ireturn, 1) := by decide +kernel
theorem dX6_copy_24 : decode cX6_copy 24 = .ok (.aload_n 0, 1) := by decide +kernel
theorem dX6_copy_25 : decode cX6_copy 25 = .ok (.getfield 37, 3) := by decide +kernel
theorem dX6_copy_28 : decode cX6_copy 28 = .ok (.iload_n 1, 1) := by decide +kernel
theorem dX6_copy_29 : decode cX6_copy 29 = .ok (.invokevirtual 108, 3) := by decide +kernel
theorem dX6_copy_32 : decode cX6_copy 32 = .ok (.aload_n 0, 1) := by decide +kernel
theorem dX6_copy_33 : decode cX6_copy 33 = .ok (.getfield 37, 3) := by decide +kernel
theorem dX6_copy_36 : decode cX6_copy 36 = .ok (.getfield 98, 3) := by decide +kernel
theorem dX6_copy_39 : decode cX6_copy 39 = .ok (.ireturn, 1) := by decide +kernel
theorem dX6_calm_0 : decode cX6_calm 0 = .ok (.iload_n 1, 1) := by decide +kernel
theorem dX6_calm_1 : decode cX6_calm 1 = .ok (.ifCond .lt 10, 3) := by decide +kernel
theorem dX6_calm_4 : decode cX6_calm 4 = .ok (.iload_n 1, 1) := by decide +kernel
theorem dX6_calm_5 : decode cX6_calm 5 = .ok (.sipush 400, 3) := by decide +kernel
theorem dX6_calm_8 : decode cX6_calm 8 = .ok (.if_icmp .le 13, 3) := by decide +kernel
theorem dX6_calm_11 : decode cX6_calm 11 = .ok (.new 111, 3) := by decide +kernel
theorem dX6_calm_14 : decode cX6_calm 14 = .ok (.dup, 1) := by decide +kernel
theorem dX6_calm_15 : decode cX6_calm 15 = .ok (.ldc 113, 2) := by decide +kernel
theorem dX6_calm_17 : decode cX6_calm 17 = .ok (.invokespecial 115, 3) := by decide +kernel
theorem dX6_calm_20 : decode cX6_calm 20 = .ok (.athrow, 1) := by decide +kernel
theorem dX6_calm_21 : decode cX6_calm 21 = .ok (.iconst 0, 1) := by decide +kernel
theorem dX6_calm_22 : decode cX6_calm 22 = .ok (.istore_n 2, 1) := by decide +kernel
theorem dX6_calm_23 : decode cX6_calm 23 = .ok (.iload_n 2, 1) := by decide +kernel
theorem dX6_calm_24 : decode cX6_calm 24 = .ok (.iload_n 1, 1) := by decide +kernel
theorem dX6_calm_25 : decode cX6_calm 25 = .ok (.if_icmp .ge 28, 3) := by decide +kernel
theorem dX6_calm_28 : decode cX6_calm 28 = .ok (.aload_n 0, 1) := by decide +kernel
theorem dX6_calm_29 : decode cX6_calm 29 = .ok (.getfield 37, 3) := by decide +kernel
theorem dX6_calm_32 : decode cX6_calm 32 = .ok (.getfield 98, 3) := by decide +kernel
theorem dX6_calm_35 : decode cX6_calm 35 = .ok (.ifCond .le 18, 3) := by decide +kernel
theorem dX6_calm_38 : decode cX6_calm 38 = .ok (.aload_n 0, 1) := by decide +kernel
theorem dX6_calm_39 : decode cX6_calm 39 = .ok (.iconst 0, 1) := by decide +kernel
theorem dX6_calm_40 : decode cX6_calm 40 = .ok (.invokevirtual 101, 3) := by decide +kernel
theorem dX6_calm_43 : decode cX6_calm 43 = .ok (.iconst (-1), 1) := by decide +kernel
theorem dX6_calm_44 : decode cX6_calm 44 = .ok (.if_icmp .eq 9, 3) := by decide +kernel
theorem dX6_calm_47 : decode cX6_calm 47 = .ok (.iinc 2 1, 3) := by decide +kernel
theorem dX6_calm_50 : decode cX6_calm 50 = .ok (.goto (-27), 3) := by decide +kernel
theorem dX6_calm_53 : decode cX6_calm 53 = .ok (.iload_n 2, 1) := by decide +kernel
theorem dX6_calm_54 : decode cX6_calm 54 = .ok (.ireturn, 1) := by decide +kernel
theorem dX6_crash_0 : decode cX6_crash 0 = .ok (.aload_n 0, 1) := by decide +kernel
theorem dX6_crash_1 : decode cX6_crash 1 = .ok (.iload_n 1, 1) := by decide +kernel
theorem dX6_crash_2 : decode cX6_crash 2 = .ok (.iload_n 2, 1) := by decide +kernel
theorem dX6_crash_3 : decode cX6_crash 3 = .ok (.invokevirtual 118, 3) := by decide +kernel
theorem dX6_crash_6 : decode cX6_crash 6 = .ok (.astore_n 3, 1) := by decide +kernel
theorem dX6_crash_7 : decode cX6_crash 7 = .ok (.aload_n 3, 1) := by decide +kernel
theorem dX6_crash_8 : decode cX6_crash 8 = .ok (.getfield 122, 3) := by decide +kernel
theorem dX6_crash_11 : decode cX6_crash 11 = .ok (.ifCond .ne 5, 3) := by decide +kernel
theorem dX6_crash_14 : decode cX6_crash 14 = .ok (.iconst 0, 1) := by decide +kernel
theorem dX6_crash_15 : decode cX6_crash 15 = .ok (.ireturn, 1) := by decide +kernel
theorem dX6_crash_16 : decode cX6_crash 16 = .ok (.aload_n 3, 1) := by decide +kernel
theorem dX6_crash_17 : decode cX6_crash 17 = .ok (.iconst 0, 1) := by decide +kernel
theorem dX6_crash_18 : decode cX6_crash 18 = .ok (.putfield 122, 3) := by decide +kernel
theorem dX6_crash_21 : decode cX6_crash 21 = .ok (.aload_n 3, 1) := by decide +kernel
theorem dX6_crash_22 : decode cX6_crash 22 = .ok (.invokevirtual 125, 3) := by decide +kernel
theorem dX6_crash_25 : decode cX6_crash 25 = .ok (.iconst 1, 1) := by decide +kernel
theorem dX6_crash_26 : decode cX6_crash 26 = .ok (.ireturn, 1) := by decide +kernel
theorem dX6_recover_0 : decode cX6_recover 0 = .ok (.aload_n 0, 1) := by decide +kernel
theorem dX6_recover_1 : decode cX6_recover 1 = .ok (.iload_n 1, 1) := by decide +kernel
theorem dX6_recover_2 : decode cX6_recover 2 = .ok (.iload_n 2, 1) := by decide +kernel
theorem dX6_recover_3 : decode cX6_recover 3 = .ok (.invokevirtual 118, 3) := by decide +kernel
theorem dX6_recover_6 : decode cX6_recover 6 = .ok (.astore_n 3, 1) := by decide +kernel
theorem dX6_recover_7 : decode cX6_recover 7 = .ok (.aload_n 3, 1) := by decide +kernel
theorem dX6_recover_8 : decode cX6_recover 8 = .ok (.getfield 122, 3) := by decide +kernel
theorem dX6_recover_11 : decode cX6_recover 11 = .ok (.ifCond .ne 7, 3) := by decide +kernel
theorem dX6_recover_14 : decode cX6_recover 14 = .ok (.iconst 1, 1) := by decide +kernel
theorem dX6_recover_15 : decode cX6_recover 15 = .ok (.goto 4, 3) := by decide +kernel
theorem dX6_recover_18 : decode cX6_recover 18 = .ok (.iconst 0, 1) := by decide +kernel
theorem dX6_recover_19 : decode cX6_recover 19 = .ok (.istore 4, 2) := by decide +kernel
theorem dX6_recover_21 : decode cX6_recover 21 = .ok (.aload_n 3, 1) := by decide +kernel
theorem dX6_recover_22 : decode cX6_recover 22 = .ok (.iconst 1, 1) := by decide +kernel
theorem dX6_recover_23 : decode cX6_recover 23 = .ok (.putfield 122, 3) := by decide +kernel
theorem dX6_recover_26 : decode cX6_recover 26 = .ok (.iload 4, 2) := by decide +kernel
theorem dX6_recover_28 : decode cX6_recover 28 = .ok (.ireturn, 1) := by decide +kernel
theorem dX6_message_0 : decode cX6_message 0 = .ok (.iload_n 1, 1) := by decide +kernel
theorem dX6_message_1 : decode cX6_message 1 = .ok (.aload_n 0, 1) := by decide +kernel
theorem dX6_message_2 : decode cX6_message 2 = .ok (.getfield 37, 3) := by decide +kernel
theorem dX6_message_5 : decode cX6_message 5 = .ok (.getfield 98, 3) := by decide +kernel
theorem dX6_message_8 : decode cX6_message 8 = .ok (.invokestatic 48, 3) := by decide +kernel
theorem dX6_message_11 : decode cX6_message 11 = .ok (.aload_n 0, 1) := by decide +kernel
theorem dX6_message_12 : decode cX6_message 12 = .ok (.getfield 37, 3) := by decide +kernel
theorem dX6_message_15 : decode cX6_message 15 = .ok (.iload_n 1, 1) := by decide +kernel
theorem dX6_message_16 : decode cX6_message 16 = .ok (.iload_n 2, 1) := by decide +kernel
theorem dX6_message_17 : decode cX6_message 17 = .ok (.invokevirtual 128, 3) := by decide +kernel
theorem dX6_message_20 : decode cX6_message 20 = .ok (.ireturn, 1) := by decide +kernel
theorem dX6_told_0 : decode cX6_told 0 = .ok (.iload_n 1, 1) := by decide +kernel
theorem dX6_told_1 : decode cX6_told 1 = .ok (.aload_n 0, 1) := by decide +kernel
theorem dX6_told_2 : decode cX6_told 2 = .ok (.getfield 37, 3) := by decide +kernel
theorem dX6_told_5 : decode cX6_told 5 = .ok (.getfield 98, 3) := by decide +kernel
theorem dX6_told_8 : decode cX6_told 8 = .ok (.invokestatic 48, 3) := by decide +kernel
theorem dX6_told_11 : decode cX6_told 11 = .ok (.iload_n 2, 1) := by decide +kernel
theorem dX6_told_12 : decode cX6_told 12 = .ok (.aload_n 0, 1) := by decide +kernel
theorem dX6_told_13 : decode cX6_told 13 = .ok (.getfield 11, 3) := by decide +kernel
theorem dX6_told_16 : decode cX6_told 16 = .ok (.arraylength, 1) := by decide +kernel
theorem dX6_told_17 : decode cX6_told 17 = .ok (.invokestatic 48, 3) := by decide +kernel
theorem dX6_told_20 : decode cX6_told 20 = .ok (.aload_n 0, 1) := by decide +kernel
theorem dX6_told_21 : decode cX6_told 21 = .ok (.getfield 37, 3) := by decide +kernel
theorem dX6_told_24 : decode cX6_told 24 = .ok (.iload_n 1, 1) := by decide +kernel
theorem dX6_told_25 : decode cX6_told 25 = .ok (.iconst 0, 1) := by decide +kernel
theorem dX6_told_26 : decode cX6_told 26 = .ok (.invokevirtual 128, 3) := by decide +kernel
theorem dX6_told_29 : decode cX6_told 29 = .ok (.iconst 3, 1) := by decide +kernel
theorem dX6_told_30 : decode cX6_told 30 = .ok (.if_icmp .eq 5, 3) := by decide +kernel
theorem dX6_told_33 : decode cX6_told 33 = .ok (.iconst (-1), 1) := by decide +kernel
theorem dX6_told_34 : decode cX6_told 34 = .ok (.ireturn, 1) := by decide +kernel
theorem dX6_told_35 : decode cX6_told 35 = .ok (.aload_n 0, 1) := by decide +kernel
theorem dX6_told_36 : decode cX6_told 36 = .ok (.getfield 37, 3) := by decide +kernel
theorem dX6_told_39 : decode cX6_told 39 = .ok (.iload_n 1, 1) := by decide +kernel
theorem dX6_told_40 : decode cX6_told 40 = .ok (.iload_n 2, 1) := by decide +kernel
theorem dX6_told_41 : decode cX6_told 41 = .ok (.invokevirtual 131, 3) := by decide +kernel
theorem dX6_told_44 : decode cX6_told 44 = .ok (.istore 4, 2) := by decide +kernel
theorem dX6_told_46 : decode cX6_told 46 = .ok (.iload_n 3, 1) := by decide +kernel
theorem dX6_told_47 : decode cX6_told 47 = .ok (.ifCond .eq 11, 3) := by decide +kernel
theorem dX6_told_50 : decode cX6_told 50 = .ok (.iload 4, 2) := by decide +kernel
theorem dX6_told_52 : decode cX6_told 52 = .ok (.invokestatic 134, 3) := by decide +kernel
theorem dX6_told_55 : decode cX6_told 55 = .ok (.goto 8, 3) := by decide +kernel
theorem dX6_told_58 : decode cX6_told 58 = .ok (.iload 4, 2) := by decide +kernel
theorem dX6_told_60 : decode cX6_told 60 = .ok (.invokestatic 137, 3) := by decide +kernel
theorem dX6_told_63 : decode cX6_told 63 = .ok (.ireturn, 1) := by decide +kernel
theorem dX6_manager_0 : decode cX6_manager 0 = .ok (.iload_n 1, 1) := by decide +kernel
theorem dX6_manager_1 : decode cX6_manager 1 = .ok (.aload_n 0, 1) := by decide +kernel
theorem dX6_manager_2 : decode cX6_manager 2 = .ok (.getfield 11, 3) := by decide +kernel
theorem dX6_manager_5 : decode cX6_manager 5 = .ok (.arraylength, 1) := by decide +kernel
theorem dX6_manager_6 : decode cX6_manager 6 = .ok (.invokestatic 48, 3) := by decide +kernel
theorem dX6_manager_9 : decode cX6_manager 9 = .ok (.aload_n 0, 1) := by decide +kernel
theorem dX6_manager_10 : decode cX6_manager 10 = .ok (.getfield 11, 3) := by decide +kernel
theorem dX6_manager_13 : decode cX6_manager 13 = .ok (.iload_n 1, 1) := by decide +kernel
theorem dX6_manager_14 : decode cX6_manager 14 = .ok (.aaload, 1) := by decide +kernel
theorem dX6_manager_15 : decode cX6_manager 15 = .ok (.astore_n 3, 1) := by decide +kernel
theorem dX6_manager_16 : decode cX6_manager 16 = .ok (.iload_n 2, 1) := by decide +kernel
theorem dX6_manager_17 : decode cX6_manager 17 = .ok (.lookupswitch 45 #[(0, 27), (1, 32)], 27) := by decide +kernel
theorem dX6_manager_44 : decode cX6_manager 44 = .ok (.aload_n 3, 1) := by decide +kernel
theorem dX6_manager_45 : decode cX6_manager 45 = .ok (.getfield 55, 3) := by decide +kernel
theorem dX6_manager_48 : decode cX6_manager 48 = .ok (.ireturn, 1) := by decide +kernel
theorem dX6_manager_49 : decode cX6_manager 49 = .ok (.aload_n 3, 1) := by decide +kernel
theorem dX6_manager_50 : decode cX6_manager 50 = .ok (.getfield 59, 3) := by decide +kernel
theorem dX6_manager_53 : decode cX6_manager 53 = .ok (.ifCond .eq 7, 3) := by decide +kernel
theorem dX6_manager_56 : decode cX6_manager 56 = .ok (.iconst 1, 1) := by decide +kernel
theorem dX6_manager_57 : decode cX6_manager 57 = .ok (.goto 4, 3) := by decide +kernel
theorem dX6_manager_60 : decode cX6_manager 60 = .ok (.iconst 0, 1) := by decide +kernel
theorem dX6_manager_61 : decode cX6_manager 61 = .ok (.ireturn, 1) := by decide +kernel
theorem dX6_manager_62 : decode cX6_manager 62 = .ok (.iconst (-1), 1) := by decide +kernel
theorem dX6_manager_63 : decode cX6_manager 63 = .ok (.ireturn, 1) := by decide +kernel
theorem dX6_acceptor_0 : decode cX6_acceptor 0 = .ok (.iload_n 1, 1) := by decide +kernel
theorem dX6_acceptor_1 : decode cX6_acceptor 1 = .ok (.aload_n 0, 1) := by decide +kernel
theorem dX6_acceptor_2 : decode cX6_acceptor 2 = .ok (.getfield 18, 3) := by decide +kernel
theorem dX6_acceptor_5 : decode cX6_acceptor 5 = .ok (.arraylength, 1) := by decide +kernel
theorem dX6_acceptor_6 : decode cX6_acceptor 6 = .ok (.invokestatic 48, 3) := by decide +kernel
theorem dX6_acceptor_9 : decode cX6_acceptor 9 = .ok (.iload_n 2, 1) := by decide +kernel
theorem dX6_acceptor_10 : decode cX6_acceptor 10 = .ok (.aload_n 0, 1) := by decide +kernel
theorem dX6_acceptor_11 : decode cX6_acceptor 11 = .ok (.getfield 11, 3) := by decide +kernel
theorem dX6_acceptor_14 : decode cX6_acceptor 14 = .ok (.arraylength, 1) := by decide +kernel
theorem dX6_acceptor_15 : decode cX6_acceptor 15 = .ok (.invokestatic 48, 3) := by decide +kernel
theorem dX6_acceptor_18 : decode cX6_acceptor 18 = .ok (.aload_n 0, 1) := by decide +kernel
theorem dX6_acceptor_19 : decode cX6_acceptor 19 = .ok (.getfield 18, 3) := by decide +kernel
theorem dX6_acceptor_22 : decode cX6_acceptor 22 = .ok (.iload_n 1, 1) := by decide +kernel
theorem dX6_acceptor_23 : decode cX6_acceptor 23 = .ok (.aaload, 1) := by decide +kernel
theorem dX6_acceptor_24 : decode cX6_acceptor 24 = .ok (.astore 4, 2) := by decide +kernel
theorem dX6_acceptor_26 : decode cX6_acceptor 26 = .ok (.iload_n 3, 1) := by decide +kernel
theorem dX6_acceptor_27 : decode cX6_acceptor 27 = .ok (.tableswitch 71 0 3 #[29, 35, 49, 60], 29) := by decide +kernel
theorem dX6_acceptor_56 : decode cX6_acceptor 56 = .ok (.aload 4, 2) := by decide +kernel
theorem dX6_acceptor_58 : decode cX6_acceptor 58 = .ok (.getfield 140, 3) := by decide +kernel
theorem dX6_acceptor_61 : decode cX6_acceptor 61 = .ok (.ireturn, 1) := by decide +kernel
theorem dX6_acceptor_62 : decode cX6_acceptor 62 = .ok (.aload 4, 2) := by decide +kernel
theorem dX6_acceptor_64 : decode cX6_acceptor 64 = .ok (.getfield 143, 3) := by decide +kernel
theorem dX6_acceptor_67 : decode cX6_acceptor 67 = .ok (.ifCond .eq 7, 3) := by decide +kernel
theorem dX6_acceptor_70 : decode cX6_acceptor 70 = .ok (.iconst 1, 1) := by decide +kernel
theorem dX6_acceptor_71 : decode cX6_acceptor 71 = .ok (.goto 4, 3) := by decide +kernel
theorem dX6_acceptor_74 : decode cX6_acceptor 74 = .ok (.iconst 0, 1) := by decide +kernel
theorem dX6_acceptor_75 : decode cX6_acceptor 75 = .ok (.ireturn, 1) := by decide +kernel
theorem dX6_acceptor_76 : decode cX6_acceptor 76 = .ok (.aload 4, 2) := by decide +kernel
theorem dX6_acceptor_78 : decode cX6_acceptor 78 = .ok (.getfield 144, 3) := by decide +kernel
theorem dX6_acceptor_81 : decode cX6_acceptor 81 = .ok (.iload_n 2, 1) := by decide +kernel
theorem dX6_acceptor_82 : decode cX6_acceptor 82 = .ok (.iaload, 1) := by decide +kernel
theorem dX6_acceptor_83 : decode cX6_acceptor 83 = .ok (.invokestatic 134, 3) := by decide +kernel
theorem dX6_acceptor_86 : decode cX6_acceptor 86 = .ok (.ireturn, 1) := by decide +kernel
theorem dX6_acceptor_87 : decode cX6_acceptor 87 = .ok (.aload 4, 2) := by decide +kernel
theorem dX6_acceptor_89 : decode cX6_acceptor 89 = .ok (.getfield 144, 3) := by decide +kernel
theorem dX6_acceptor_92 : decode cX6_acceptor 92 = .ok (.iload_n 2, 1) := by decide +kernel
theorem dX6_acceptor_93 : decode cX6_acceptor 93 = .ok (.iaload, 1) := by decide +kernel
theorem dX6_acceptor_94 : decode cX6_acceptor 94 = .ok (.invokestatic 137, 3) := by decide +kernel
theorem dX6_acceptor_97 : decode cX6_acceptor 97 = .ok (.ireturn, 1) := by decide +kernel
theorem dX6_acceptor_98 : decode cX6_acceptor 98 = .ok (.iconst (-1), 1) := by decide +kernel
theorem dX6_acceptor_99 : decode cX6_acceptor 99 = .ok (.ireturn, 1) := by decide +kernel
theorem dX6_leader_0 : decode cX6_leader 0 = .ok (.iload_n 1, 1) := by decide +kernel
theorem dX6_leader_1 : decode cX6_leader 1 = .ok (.iconst 3, 1) := by decide +kernel
theorem dX6_leader_2 : decode cX6_leader 2 = .ok (.invokestatic 48, 3) := by decide +kernel
theorem dX6_leader_5 : decode cX6_leader 5 = .ok (.aload_n 0, 1) := by decide +kernel
theorem dX6_leader_6 : decode cX6_leader 6 = .ok (.getfield 27, 3) := by decide +kernel
theorem dX6_leader_9 : decode cX6_leader 9 = .ok (.iload_n 1, 1) := by decide +kernel
theorem dX6_leader_10 : decode cX6_leader 10 = .ok (.aaload, 1) := by decide +kernel
theorem dX6_leader_11 : decode cX6_leader 11 = .ok (.astore_n 3, 1) := by decide +kernel
theorem dX6_leader_12 : decode cX6_leader 12 = .ok (.iload_n 2, 1) := by decide +kernel
theorem dX6_leader_13 : decode cX6_leader 13 = .ok (.tableswitch 92 0 5 #[39, 44, 49, 54, 59, 72], 39) := by decide +kernel
theorem dX6_leader_52 : decode cX6_leader 52 = .ok (.aload_n 3, 1) := by decide +kernel
theorem dX6_leader_53 : decode cX6_leader 53 = .ok (.getfield 148, 3) := by decide +kernel
theorem dX6_leader_56 : decode cX6_leader 56 = .ok (.ireturn, 1) := by decide +kernel
theorem dX6_leader_57 : decode cX6_leader 57 = .ok (.aload_n 3, 1) := by decide +kernel
theorem dX6_leader_58 : decode cX6_leader 58 = .ok (.getfield 151, 3) := by decide +kernel
theorem dX6_leader_61 : decode cX6_leader 61 = .ok (.ireturn, 1) := by decide +kernel
theorem dX6_leader_62 : decode cX6_leader 62 = .ok (.aload_n 3, 1) := by decide +kernel
theorem dX6_leader_63 : decode cX6_leader 63 = .ok (.getfield 78, 3) := by decide +kernel
theorem dX6_leader_66 : decode cX6_leader 66 = .ok (.ireturn, 1) := by decide +kernel
theorem dX6_leader_67 : decode cX6_leader 67 = .ok (.aload_n 3, 1) := by decide +kernel
theorem dX6_leader_68 : decode cX6_leader 68 = .ok (.getfield 85, 3) := by decide +kernel
theorem dX6_leader_71 : decode cX6_leader 71 = .ok (.ireturn, 1) := by decide +kernel
theorem dX6_leader_72 : decode cX6_leader 72 = .ok (.aload_n 3, 1) := by decide +kernel
theorem dX6_leader_73 : decode cX6_leader 73 = .ok (.getfield 88, 3) := by decide +kernel
theorem dX6_leader_76 : decode cX6_leader 76 = .ok (.ifCond .eq 7, 3) := by decide +kernel
theorem dX6_leader_79 : decode cX6_leader 79 = .ok (.iconst 1, 1) := by decide +kernel
theorem dX6_leader_80 : decode cX6_leader 80 = .ok (.goto 4, 3) := by decide +kernel
theorem dX6_leader_83 : decode cX6_leader 83 = .ok (.iconst 0, 1) := by decide +kernel
theorem dX6_leader_84 : decode cX6_leader 84 = .ok (.ireturn, 1) := by decide +kernel
theorem dX6_leader_85 : decode cX6_leader 85 = .ok (.aload_n 3, 1) := by decide +kernel
theorem dX6_leader_86 : decode cX6_leader 86 = .ok (.getfield 151, 3) := by decide +kernel
theorem dX6_leader_89 : decode cX6_leader 89 = .ok (.iconst 1, 1) := by decide +kernel
theorem dX6_leader_90 : decode cX6_leader 90 = .ok (.if_icmp .ne 13, 3) := by decide +kernel
theorem dX6_leader_93 : decode cX6_leader 93 = .ok (.aload_n 3, 1) := by decide +kernel
theorem dX6_leader_94 : decode cX6_leader 94 = .ok (.getfield 154, 3) := by decide +kernel
theorem dX6_leader_97 : decode cX6_leader 97 = .ok (.invokestatic 157, 3) := by decide +kernel
theorem dX6_leader_100 : decode cX6_leader 100 = .ok (.goto 4, 3) := by decide +kernel
theorem dX6_leader_103 : decode cX6_leader 103 = .ok (.iconst 0, 1) := by decide +kernel
theorem dX6_leader_104 : decode cX6_leader 104 = .ok (.ireturn, 1) := by decide +kernel
theorem dX6_leader_105 : decode cX6_leader 105 = .ok (.iconst (-1), 1) := by decide +kernel
theorem dX6_leader_106 : decode cX6_leader 106 = .ok (.ireturn, 1) := by decide +kernel
theorem dX6_outcome_0 : decode cX6_outcome 0 = .ok (.iload_n 1, 1) := by decide +kernel
theorem dX6_outcome_1 : decode cX6_outcome 1 = .ok (.iconst 3, 1) := by decide +kernel
theorem dX6_outcome_2 : decode cX6_outcome 2 = .ok (.invokestatic 48, 3) := by decide +kernel
theorem dX6_outcome_5 : decode cX6_outcome 5 = .ok (.iload_n 2, 1) := by decide +kernel
theorem dX6_outcome_6 : decode cX6_outcome 6 = .ok (.aload_n 0, 1) := by decide +kernel
theorem dX6_outcome_7 : decode cX6_outcome 7 = .ok (.getfield 11, 3) := by decide +kernel
theorem dX6_outcome_10 : decode cX6_outcome 10 = .ok (.arraylength, 1) := by decide +kernel
theorem dX6_outcome_11 : decode cX6_outcome 11 = .ok (.invokestatic 48, 3) := by decide +kernel
theorem dX6_outcome_14 : decode cX6_outcome 14 = .ok (.aload_n 0, 1) := by decide +kernel
theorem dX6_outcome_15 : decode cX6_outcome 15 = .ok (.getfield 27, 3) := by decide +kernel
theorem dX6_outcome_18 : decode cX6_outcome 18 = .ok (.iload_n 1, 1) := by decide +kernel
theorem dX6_outcome_19 : decode cX6_outcome 19 = .ok (.aaload, 1) := by decide +kernel
theorem dX6_outcome_20 : decode cX6_outcome 20 = .ok (.getfield 162, 3) := by decide +kernel
theorem dX6_outcome_23 : decode cX6_outcome 23 = .ok (.iload_n 2, 1) := by decide +kernel
theorem dX6_outcome_24 : decode cX6_outcome 24 = .ok (.iaload, 1) := by decide +kernel
theorem dX6_outcome_25 : decode cX6_outcome 25 = .ok (.ireturn, 1) := by decide +kernel
theorem dX6_seen_0 : decode cX6_seen 0 = .ok (.iload_n 1, 1) := by decide +kernel
theorem dX6_seen_1 : decode cX6_seen 1 = .ok (.iconst 3, 1) := by decide +kernel
theorem dX6_seen_2 : decode cX6_seen 2 = .ok (.invokestatic 48, 3) := by decide +kernel
theorem dX6_seen_5 : decode cX6_seen 5 = .ok (.iload_n 2, 1) := by decide +kernel
theorem dX6_seen_6 : decode cX6_seen 6 = .ok (.aload_n 0, 1) := by decide +kernel
theorem dX6_seen_7 : decode cX6_seen 7 = .ok (.getfield 11, 3) := by decide +kernel
theorem dX6_seen_10 : decode cX6_seen 10 = .ok (.arraylength, 1) := by decide +kernel
theorem dX6_seen_11 : decode cX6_seen 11 = .ok (.invokestatic 48, 3) := by decide +kernel
theorem dX6_seen_14 : decode cX6_seen 14 = .ok (.iload_n 3, 1) := by decide +kernel
theorem dX6_seen_15 : decode cX6_seen 15 = .ok (.aload_n 0, 1) := by decide +kernel
theorem dX6_seen_16 : decode cX6_seen 16 = .ok (.getfield 18, 3) := by decide +kernel
theorem dX6_seen_19 : decode cX6_seen 19 = .ok (.arraylength, 1) := by decide +kernel
theorem dX6_seen_20 : decode cX6_seen 20 = .ok (.invokestatic 48, 3) := by decide +kernel
theorem dX6_seen_23 : decode cX6_seen 23 = .ok (.aload_n 0, 1) := by decide +kernel
theorem dX6_seen_24 : decode cX6_seen 24 = .ok (.getfield 27, 3) := by decide +kernel
theorem dX6_seen_27 : decode cX6_seen 27 = .ok (.iload_n 1, 1) := by decide +kernel
theorem dX6_seen_28 : decode cX6_seen 28 = .ok (.aaload, 1) := by decide +kernel
theorem dX6_seen_29 : decode cX6_seen 29 = .ok (.iload_n 2, 1) := by decide +kernel
theorem dX6_seen_30 : decode cX6_seen 30 = .ok (.iload_n 3, 1) := by decide +kernel
theorem dX6_seen_31 : decode cX6_seen 31 = .ok (.invokevirtual 165, 3) := by decide +kernel
theorem dX6_seen_34 : decode cX6_seen 34 = .ok (.invokestatic 134, 3) := by decide +kernel
theorem dX6_seen_37 : decode cX6_seen 37 = .ok (.ireturn, 1) := by decide +kernel
theorem dX6_chosen_0 : decode cX6_chosen 0 = .ok (.iload_n 1, 1) := by decide +kernel
theorem dX6_chosen_1 : decode cX6_chosen 1 = .ok (.aload_n 0, 1) := by decide +kernel
theorem dX6_chosen_2 : decode cX6_chosen 2 = .ok (.getfield 11, 3) := by decide +kernel
theorem dX6_chosen_5 : decode cX6_chosen 5 = .ok (.arraylength, 1) := by decide +kernel
theorem dX6_chosen_6 : decode cX6_chosen 6 = .ok (.invokestatic 48, 3) := by decide +kernel
theorem dX6_chosen_9 : decode cX6_chosen 9 = .ok (.aload_n 0, 1) := by decide +kernel
theorem dX6_chosen_10 : decode cX6_chosen 10 = .ok (.getfield 44, 3) := by decide +kernel
theorem dX6_chosen_13 : decode cX6_chosen 13 = .ok (.getfield 168, 3) := by decide +kernel
theorem dX6_chosen_16 : decode cX6_chosen 16 = .ok (.iload_n 1, 1) := by decide +kernel
theorem dX6_chosen_17 : decode cX6_chosen 17 = .ok (.iaload, 1) := by decide +kernel
theorem dX6_chosen_18 : decode cX6_chosen 18 = .ok (.ireturn, 1) := by decide +kernel
theorem dX6_count_0 : decode cX6_count 0 = .ok (.iload_n 1, 1) := by decide +kernel
theorem dX6_count_1 : decode cX6_count 1 = .ok (.tableswitch 127 0 9 #[55, 61, 67, 75, 83, 88, 99, 110, 116, 122], 55) := by decide +kernel
theorem dX6_count_56 : decode cX6_count 56 = .ok (.aload_n 0, 1) := by decide +kernel
theorem dX6_count_57 : decode cX6_count 57 = .ok (.getfield 11, 3) := by decide +kernel
theorem dX6_count_60 : decode cX6_count 60 = .ok (.arraylength, 1) := by decide +kernel
theorem dX6_count_61 : decode cX6_count 61 = .ok (.ireturn, 1) := by decide +kernel
theorem dX6_count_62 : decode cX6_count 62 = .ok (.aload_n 0, 1) := by decide +kernel
theorem dX6_count_63 : decode cX6_count 63 = .ok (.getfield 18, 3) := by decide +kernel
theorem dX6_count_66 : decode cX6_count 66 = .ok (.arraylength, 1) := by decide +kernel
theorem dX6_count_67 : decode cX6_count 67 = .ok (.ireturn, 1) := by decide +kernel
theorem dX6_count_68 : decode cX6_count 68 = .ok (.aload_n 0, 1) := by decide +kernel
theorem dX6_count_69 : decode cX6_count 69 = .ok (.getfield 37, 3) := by decide +kernel
theorem dX6_count_72 : decode cX6_count 72 = .ok (.getfield 98, 3) := by decide +kernel
theorem dX6_count_75 : decode cX6_count 75 = .ok (.ireturn, 1) := by decide +kernel
theorem dX6_count_76 : decode cX6_count 76 = .ok (.aload_n 0, 1) := by decide +kernel
theorem dX6_count_77 : decode cX6_count 77 = .ok (.getfield 37, 3) := by decide +kernel
theorem dX6_count_80 : decode cX6_count 80 = .ok (.getfield 171, 3) := by decide +kernel
theorem dX6_count_83 : decode cX6_count 83 = .ok (.ireturn, 1) := by decide +kernel
theorem dX6_count_84 : decode cX6_count 84 = .ok (.aload_n 0, 1) := by decide +kernel
theorem dX6_count_85 : decode cX6_count 85 = .ok (.getfield 174, 3) := by decide +kernel
theorem dX6_count_88 : decode cX6_count 88 = .ok (.ireturn, 1) := by decide +kernel
theorem dX6_count_89 : decode cX6_count 89 = .ok (.aload_n 0, 1) := by decide +kernel
theorem dX6_count_90 : decode cX6_count 90 = .ok (.iconst 0, 1) := by decide +kernel
theorem dX6_count_91 : decode cX6_count 91 = .ok (.aload_n 0, 1) := by decide +kernel
theorem dX6_count_92 : decode cX6_count 92 = .ok (.getfield 11, 3) := by decide +kernel
theorem dX6_count_95 : decode cX6_count 95 = .ok (.arraylength, 1) := by decide +kernel
theorem dX6_count_96 : decode cX6_count 96 = .ok (.invokevirtual 177, 3) := by decide +kernel
theorem dX6_count_99 : decode cX6_count 99 = .ok (.ireturn, 1) := by decide +kernel
theorem dX6_count_100 : decode cX6_count 100 = .ok (.aload_n 0, 1) := by decide +kernel
theorem dX6_count_101 : decode cX6_count 101 = .ok (.iconst 1, 1) := by decide +kernel
theorem dX6_count_102 : decode cX6_count 102 = .ok (.aload_n 0, 1) := by decide +kernel
theorem dX6_count_103 : decode cX6_count 103 = .ok (.getfield 18, 3) := by decide +kernel
theorem dX6_count_106 : decode cX6_count 106 = .ok (.arraylength, 1) := by decide +kernel
theorem dX6_count_107 : decode cX6_count 107 = .ok (.invokevirtual 177, 3) := by decide +kernel
theorem dX6_count_110 : decode cX6_count 110 = .ok (.ireturn, 1) := by decide +kernel
theorem dX6_count_111 : decode cX6_count 111 = .ok (.aload_n 0, 1) := by decide +kernel
theorem dX6_count_112 : decode cX6_count 112 = .ok (.iconst 3, 1) := by decide +kernel
theorem dX6_count_113 : decode cX6_count 113 = .ok (.invokevirtual 180, 3) := by decide +kernel
theorem dX6_count_116 : decode cX6_count 116 = .ok (.ireturn, 1) := by decide +kernel
theorem dX6_count_117 : decode cX6_count 117 = .ok (.aload_n 0, 1) := by decide +kernel
theorem dX6_count_118 : decode cX6_count 118 = .ok (.iconst 4, 1) := by decide +kernel
theorem dX6_count_119 : decode cX6_count 119 = .ok (.invokevirtual 180, 3) := by decide +kernel
theorem dX6_count_122 : decode cX6_count 122 = .ok (.ireturn, 1) := by decide +kernel
theorem dX6_count_123 : decode cX6_count 123 = .ok (.aload_n 0, 1) := by decide +kernel
theorem dX6_count_124 : decode cX6_count 124 = .ok (.getfield 92, 3) := by decide +kernel
theorem dX6_count_127 : decode cX6_count 127 = .ok (.ireturn, 1) := by decide +kernel
theorem dX6_count_128 : decode cX6_count 128 = .ok (.iconst (-1), 1) := by decide +kernel
theorem dX6_count_129 : decode cX6_count 129 = .ok (.ireturn, 1) := by decide +kernel
theorem dX6_astray_0 : decode cX6_astray 0 = .ok (.aload_n 0, 1) := by decide +kernel
theorem dX6_astray_1 : decode cX6_astray 1 = .ok (.iconst 3, 1) := by decide +kernel
theorem dX6_astray_2 : decode cX6_astray 2 = .ok (.invokevirtual 180, 3) := by decide +kernel
theorem dX6_astray_5 : decode cX6_astray 5 = .ok (.istore_n 1, 1) := by decide +kernel
theorem dX6_astray_6 : decode cX6_astray 6 = .ok (.aload_n 0, 1) := by decide +kernel
theorem dX6_astray_7 : decode cX6_astray 7 = .ok (.iconst 4, 1) := by decide +kernel
theorem dX6_astray_8 : decode cX6_astray 8 = .ok (.invokevirtual 180, 3) := by decide +kernel
theorem dX6_astray_11 : decode cX6_astray 11 = .ok (.ifCond .le 7, 3) := by decide +kernel
theorem dX6_astray_14 : decode cX6_astray 14 = .ok (.iload_n 1, 1) := by decide +kernel
theorem dX6_astray_15 : decode cX6_astray 15 = .ok (.goto 4, 3) := by decide +kernel
theorem dX6_astray_18 : decode cX6_astray 18 = .ok (.iconst 0, 1) := by decide +kernel
theorem dX6_astray_19 : decode cX6_astray 19 = .ok (.istore_n 2, 1) := by decide +kernel
theorem dX6_astray_20 : decode cX6_astray 20 = .ok (.iconst 0, 1) := by decide +kernel
theorem dX6_astray_21 : decode cX6_astray 21 = .ok (.istore_n 3, 1) := by decide +kernel
theorem dX6_astray_22 : decode cX6_astray 22 = .ok (.iload_n 3, 1) := by decide +kernel
theorem dX6_astray_23 : decode cX6_astray 23 = .ok (.aload_n 0, 1) := by decide +kernel
theorem dX6_astray_24 : decode cX6_astray 24 = .ok (.getfield 11, 3) := by decide +kernel
theorem dX6_astray_27 : decode cX6_astray 27 = .ok (.arraylength, 1) := by decide +kernel
theorem dX6_astray_28 : decode cX6_astray 28 = .ok (.if_icmp .ge 53, 3) := by decide +kernel
theorem dX6_astray_31 : decode cX6_astray 31 = .ok (.aload_n 0, 1) := by decide +kernel
theorem dX6_astray_32 : decode cX6_astray 32 = .ok (.getfield 11, 3) := by decide +kernel
theorem dX6_astray_35 : decode cX6_astray 35 = .ok (.iload_n 3, 1) := by decide +kernel
theorem dX6_astray_36 : decode cX6_astray 36 = .ok (.aaload, 1) := by decide +kernel
theorem dX6_astray_37 : decode cX6_astray 37 = .ok (.getfield 55, 3) := by decide +kernel
theorem dX6_astray_40 : decode cX6_astray 40 = .ok (.iconst 3, 1) := by decide +kernel
theorem dX6_astray_41 : decode cX6_astray 41 = .ok (.if_icmp .ne 19, 3) := by decide +kernel
theorem dX6_astray_44 : decode cX6_astray 44 = .ok (.aload_n 0, 1) := by decide +kernel
theorem dX6_astray_45 : decode cX6_astray 45 = .ok (.getfield 11, 3) := by decide +kernel
theorem dX6_astray_48 : decode cX6_astray 48 = .ok (.iload_n 3, 1) := by decide +kernel
theorem dX6_astray_49 : decode cX6_astray 49 = .ok (.aaload, 1) := by decide +kernel
theorem dX6_astray_50 : decode cX6_astray 50 = .ok (.getfield 67, 3) := by decide +kernel
theorem dX6_astray_53 : decode cX6_astray 53 = .ok (.iconst 1, 1) := by decide +kernel
theorem dX6_astray_54 : decode cX6_astray 54 = .ok (.if_icmp .eq 6, 3) := by decide +kernel
theorem dX6_astray_57 : decode cX6_astray 57 = .ok (.iinc 2 1, 3) := by decide +kernel
theorem dX6_astray_60 : decode cX6_astray 60 = .ok (.aload_n 0, 1) := by decide +kernel
theorem dX6_astray_61 : decode cX6_astray 61 = .ok (.getfield 44, 3) := by decide +kernel
theorem dX6_astray_64 : decode cX6_astray 64 = .ok (.getfield 183, 3) := by decide +kernel
theorem dX6_astray_67 : decode cX6_astray 67 = .ok (.iload_n 3, 1) := by decide +kernel
theorem dX6_astray_68 : decode cX6_astray 68 = .ok (.baload, 1) := by decide +kernel
theorem dX6_astray_69 : decode cX6_astray 69 = .ok (.ifCond .eq 6, 3) := by decide +kernel
theorem dX6_astray_72 : decode cX6_astray 72 = .ok (.iinc 2 1, 3) := by decide +kernel
theorem dX6_astray_75 : decode cX6_astray 75 = .ok (.iinc 3 1, 3) := by decide +kernel
theorem dX6_astray_78 : decode cX6_astray 78 = .ok (.goto (-56), 3) := by decide +kernel
theorem dX6_astray_81 : decode cX6_astray 81 = .ok (.iconst 0, 1) := by decide +kernel
theorem dX6_astray_82 : decode cX6_astray 82 = .ok (.istore_n 3, 1) := by decide +kernel
theorem dX6_astray_83 : decode cX6_astray 83 = .ok (.iload_n 3, 1) := by decide +kernel
theorem dX6_astray_84 : decode cX6_astray 84 = .ok (.iconst 3, 1) := by decide +kernel
theorem dX6_astray_85 : decode cX6_astray 85 = .ok (.if_icmp .ge 28, 3) := by decide +kernel
theorem dX6_astray_88 : decode cX6_astray 88 = .ok (.aload_n 0, 1) := by decide +kernel
theorem dX6_astray_89 : decode cX6_astray 89 = .ok (.aload_n 0, 1) := by decide +kernel
theorem dX6_astray_90 : decode cX6_astray 90 = .ok (.getfield 27, 3) := by decide +kernel
theorem dX6_astray_93 : decode cX6_astray 93 = .ok (.iload_n 3, 1) := by decide +kernel
theorem dX6_astray_94 : decode cX6_astray 94 = .ok (.aaload, 1) := by decide +kernel
theorem dX6_astray_95 : decode cX6_astray 95 = .ok (.getfield 85, 3) := by decide +kernel
theorem dX6_astray_98 : decode cX6_astray 98 = .ok (.invokevirtual 187, 3) := by decide +kernel
theorem dX6_astray_101 : decode cX6_astray 101 = .ok (.ifCond .ne 6, 3) := by decide +kernel
theorem dX6_astray_104 : decode cX6_astray 104 = .ok (.iinc 2 1, 3) := by decide +kernel
theorem dX6_astray_107 : decode cX6_astray 107 = .ok (.iinc 3 1, 3) := by decide +kernel
theorem dX6_astray_110 : decode cX6_astray 110 = .ok (.goto (-27), 3) := by decide +kernel
theorem dX6_astray_113 : decode cX6_astray 113 = .ok (.iload_n 2, 1) := by decide +kernel
theorem dX6_astray_114 : decode cX6_astray 114 = .ok (.ireturn, 1) := by decide +kernel
theorem dX6_checkOne_0 : decode cX6_checkOne 0 = .ok (.iload_n 0, 1) := by decide +kernel
theorem dX6_checkOne_1 : decode cX6_checkOne 1 = .ok (.ifCond .lt 8, 3) := by decide +kernel
theorem dX6_checkOne_4 : decode cX6_checkOne 4 = .ok (.iload_n 0, 1) := by decide +kernel
theorem dX6_checkOne_5 : decode cX6_checkOne 5 = .ok (.iload_n 1, 1) := by decide +kernel
theorem dX6_checkOne_6 : decode cX6_checkOne 6 = .ok (.if_icmp .lt 13, 3) := by decide +kernel
theorem dX6_checkOne_9 : decode cX6_checkOne 9 = .ok (.new 190, 3) := by decide +kernel
theorem dX6_checkOne_12 : decode cX6_checkOne 12 = .ok (.dup, 1) := by decide +kernel
theorem dX6_checkOne_13 : decode cX6_checkOne 13 = .ok (.ldc 192, 2) := by decide +kernel
theorem dX6_checkOne_15 : decode cX6_checkOne 15 = .ok (.invokespecial 194, 3) := by decide +kernel
theorem dX6_checkOne_18 : decode cX6_checkOne 18 = .ok (.athrow, 1) := by decide +kernel
theorem dX6_checkOne_19 : decode cX6_checkOne 19 = .ok (.return_, 1) := by decide +kernel
theorem dX6_voteOf_0 : decode cX6_voteOf 0 = .ok (.iload_n 0, 1) := by decide +kernel
theorem dX6_voteOf_1 : decode cX6_voteOf 1 = .ok (.iconst 2, 1) := by decide +kernel
theorem dX6_voteOf_2 : decode cX6_voteOf 2 = .ok (.ishl, 1) := by decide +kernel
theorem dX6_voteOf_3 : decode cX6_voteOf 3 = .ok (.iload_n 1, 1) := by decide +kernel
theorem dX6_voteOf_4 : decode cX6_voteOf 4 = .ok (.ior, 1) := by decide +kernel
theorem dX6_voteOf_5 : decode cX6_voteOf 5 = .ok (.ireturn, 1) := by decide +kernel
theorem dX6_ballotOf_0 : decode cX6_ballotOf 0 = .ok (.iload_n 0, 1) := by decide +kernel
theorem dX6_ballotOf_1 : decode cX6_ballotOf 1 = .ok (.ifCond .ne 7, 3) := by decide +kernel
theorem dX6_ballotOf_4 : decode cX6_ballotOf 4 = .ok (.iconst (-1), 1) := by decide +kernel
theorem dX6_ballotOf_5 : decode cX6_ballotOf 5 = .ok (.goto 6, 3) := by decide +kernel
theorem dX6_ballotOf_8 : decode cX6_ballotOf 8 = .ok (.iload_n 0, 1) := by decide +kernel
theorem dX6_ballotOf_9 : decode cX6_ballotOf 9 = .ok (.iconst 2, 1) := by decide +kernel
theorem dX6_ballotOf_10 : decode cX6_ballotOf 10 = .ok (.ishr, 1) := by decide +kernel
theorem dX6_ballotOf_11 : decode cX6_ballotOf 11 = .ok (.ireturn, 1) := by decide +kernel
theorem dX6_wordOf_0 : decode cX6_wordOf 0 = .ok (.iload_n 0, 1) := by decide +kernel
theorem dX6_wordOf_1 : decode cX6_wordOf 1 = .ok (.iconst 3, 1) := by decide +kernel
theorem dX6_wordOf_2 : decode cX6_wordOf 2 = .ok (.iand, 1) := by decide +kernel
theorem dX6_wordOf_3 : decode cX6_wordOf 3 = .ok (.ireturn, 1) := by decide +kernel
theorem dX6_leastOwnAbove_0 : decode cX6_leastOwnAbove 0 = .ok (.iload_n 0, 1) := by decide +kernel
theorem dX6_leastOwnAbove_1 : decode cX6_leastOwnAbove 1 = .ok (.iconst 1, 1) := by decide +kernel
theorem dX6_leastOwnAbove_2 : decode cX6_leastOwnAbove 2 = .ok (.iadd, 1) := by decide +kernel
theorem dX6_leastOwnAbove_3 : decode cX6_leastOwnAbove 3 = .ok (.istore_n 2, 1) := by decide +kernel
theorem dX6_leastOwnAbove_4 : decode cX6_leastOwnAbove 4 = .ok (.iload_n 1, 1) := by decide +kernel
theorem dX6_leastOwnAbove_5 : decode cX6_leastOwnAbove 5 = .ok (.iload_n 2, 1) := by decide +kernel
theorem dX6_leastOwnAbove_6 : decode cX6_leastOwnAbove 6 = .ok (.if_icmp .ge 7, 3) := by decide +kernel
theorem dX6_leastOwnAbove_9 : decode cX6_leastOwnAbove 9 = .ok (.iload_n 2, 1) := by decide +kernel
theorem dX6_leastOwnAbove_10 : decode cX6_leastOwnAbove 10 = .ok (.goto 14, 3) := by decide +kernel
theorem dX6_leastOwnAbove_13 : decode cX6_leastOwnAbove 13 = .ok (.iload_n 2, 1) := by decide +kernel
theorem dX6_leastOwnAbove_14 : decode cX6_leastOwnAbove 14 = .ok (.iconst 3, 1) := by decide +kernel
theorem dX6_leastOwnAbove_15 : decode cX6_leastOwnAbove 15 = .ok (.iload_n 1, 1) := by decide +kernel
theorem dX6_leastOwnAbove_16 : decode cX6_leastOwnAbove 16 = .ok (.iload_n 2, 1) := by decide +kernel
theorem dX6_leastOwnAbove_17 : decode cX6_leastOwnAbove 17 = .ok (.isub, 1) := by decide +kernel
theorem dX6_leastOwnAbove_18 : decode cX6_leastOwnAbove 18 = .ok (.iconst 3, 1) := by decide +kernel
theorem dX6_leastOwnAbove_19 : decode cX6_leastOwnAbove 19 = .ok (.idiv, 1) := by decide +kernel
theorem dX6_leastOwnAbove_20 : decode cX6_leastOwnAbove 20 = .ok (.iconst 1, 1) := by decide +kernel
theorem dX6_leastOwnAbove_21 : decode cX6_leastOwnAbove 21 = .ok (.iadd, 1) := by decide +kernel
theorem dX6_leastOwnAbove_22 : decode cX6_leastOwnAbove 22 = .ok (.imul, 1) := by decide +kernel
theorem dX6_leastOwnAbove_23 : decode cX6_leastOwnAbove 23 = .ok (.iadd, 1) := by decide +kernel
theorem dX6_leastOwnAbove_24 : decode cX6_leastOwnAbove 24 = .ok (.ireturn, 1) := by decide +kernel
theorem dX6_leaderOf_0 : decode cX6_leaderOf 0 = .ok (.iload_n 0, 1) := by decide +kernel
theorem dX6_leaderOf_1 : decode cX6_leaderOf 1 = .ok (.iconst 1, 1) := by decide +kernel
theorem dX6_leaderOf_2 : decode cX6_leaderOf 2 = .ok (.isub, 1) := by decide +kernel
theorem dX6_leaderOf_3 : decode cX6_leaderOf 3 = .ok (.iconst 3, 1) := by decide +kernel
theorem dX6_leaderOf_4 : decode cX6_leaderOf 4 = .ok (.invokestatic 195, 3) := by decide +kernel
theorem dX6_leaderOf_7 : decode cX6_leaderOf 7 = .ok (.ireturn, 1) := by decide +kernel
theorem dX6_howManyUp_0 : decode cX6_howManyUp 0 = .ok (.iconst 0, 1) := by decide +kernel
theorem dX6_howManyUp_1 : decode cX6_howManyUp 1 = .ok (.istore_n 3, 1) := by decide +kernel
theorem dX6_howManyUp_2 : decode cX6_howManyUp 2 = .ok (.iconst 0, 1) := by decide +kernel
theorem dX6_howManyUp_3 : decode cX6_howManyUp 3 = .ok (.istore 4, 2) := by decide +kernel
theorem dX6_howManyUp_5 : decode cX6_howManyUp 5 = .ok (.iload 4, 2) := by decide +kernel
theorem dX6_howManyUp_7 : decode cX6_howManyUp 7 = .ok (.iload_n 2, 1) := by decide +kernel
theorem dX6_howManyUp_8 : decode cX6_howManyUp 8 = .ok (.if_icmp .ge 25, 3) := by decide +kernel
theorem dX6_howManyUp_11 : decode cX6_howManyUp 11 = .ok (.aload_n 0, 1) := by decide +kernel
theorem dX6_howManyUp_12 : decode cX6_howManyUp 12 = .ok (.iload_n 1, 1) := by decide +kernel
theorem dX6_howManyUp_13 : decode cX6_howManyUp 13 = .ok (.iload 4, 2) := by decide +kernel
theorem dX6_howManyUp_15 : decode cX6_howManyUp 15 = .ok (.invokevirtual 118, 3) := by decide +kernel
theorem dX6_howManyUp_18 : decode cX6_howManyUp 18 = .ok (.getfield 122, 3) := by decide +kernel
theorem dX6_howManyUp_21 : decode cX6_howManyUp 21 = .ok (.ifCond .eq 6, 3) := by decide +kernel
theorem dX6_howManyUp_24 : decode cX6_howManyUp 24 = .ok (.iinc 3 1, 3) := by decide +kernel
theorem dX6_howManyUp_27 : decode cX6_howManyUp 27 = .ok (.iinc 4 1, 3) := by decide +kernel
theorem dX6_howManyUp_30 : decode cX6_howManyUp 30 = .ok (.goto (-25), 3) := by decide +kernel
theorem dX6_howManyUp_33 : decode cX6_howManyUp 33 = .ok (.iload_n 3, 1) := by decide +kernel
theorem dX6_howManyUp_34 : decode cX6_howManyUp 34 = .ok (.ireturn, 1) := by decide +kernel
theorem dX6_howManyManagers_0 : decode cX6_howManyManagers 0 = .ok (.iconst 0, 1) := by decide +kernel
theorem dX6_howManyManagers_1 : decode cX6_howManyManagers 1 = .ok (.istore_n 2, 1) := by decide +kernel
theorem dX6_howManyManagers_2 : decode cX6_howManyManagers 2 = .ok (.iconst 0, 1) := by decide +kernel
theorem dX6_howManyManagers_3 : decode cX6_howManyManagers 3 = .ok (.istore_n 3, 1) := by decide +kernel
theorem dX6_howManyManagers_4 : decode cX6_howManyManagers 4 = .ok (.iload_n 3, 1) := by decide +kernel
theorem dX6_howManyManagers_5 : decode cX6_howManyManagers 5 = .ok (.aload_n 0, 1) := by decide +kernel
theorem dX6_howManyManagers_6 : decode cX6_howManyManagers 6 = .ok (.getfield 11, 3) := by decide +kernel
theorem dX6_howManyManagers_9 : decode cX6_howManyManagers 9 = .ok (.arraylength, 1) := by decide +kernel
theorem dX6_howManyManagers_10 : decode cX6_howManyManagers 10 = .ok (.if_icmp .ge 25, 3) := by decide +kernel
theorem dX6_howManyManagers_13 : decode cX6_howManyManagers 13 = .ok (.aload_n 0, 1) := by decide +kernel
theorem dX6_howManyManagers_14 : decode cX6_howManyManagers 14 = .ok (.getfield 11, 3) := by decide +kernel
theorem dX6_howManyManagers_17 : decode cX6_howManyManagers 17 = .ok (.iload_n 3, 1) := by decide +kernel
theorem dX6_howManyManagers_18 : decode cX6_howManyManagers 18 = .ok (.aaload, 1) := by decide +kernel
theorem dX6_howManyManagers_19 : decode cX6_howManyManagers 19 = .ok (.getfield 55, 3) := by decide +kernel
theorem dX6_howManyManagers_22 : decode cX6_howManyManagers 22 = .ok (.iload_n 1, 1) := by decide +kernel
theorem dX6_howManyManagers_23 : decode cX6_howManyManagers 23 = .ok (.if_icmp .ne 6, 3) := by decide +kernel
theorem dX6_howManyManagers_26 : decode cX6_howManyManagers 26 = .ok (.iinc 2 1, 3) := by decide +kernel
theorem dX6_howManyManagers_29 : decode cX6_howManyManagers 29 = .ok (.iinc 3 1, 3) := by decide +kernel
theorem dX6_howManyManagers_32 : decode cX6_howManyManagers 32 = .ok (.goto (-28), 3) := by decide +kernel
theorem dX6_howManyManagers_35 : decode cX6_howManyManagers 35 = .ok (.iload_n 2, 1) := by decide +kernel
theorem dX6_howManyManagers_36 : decode cX6_howManyManagers 36 = .ok (.ireturn, 1) := by decide +kernel
theorem dX6_isBackedByChosen_0 : decode cX6_isBackedByChosen 0 = .ok (.iconst 0, 1) := by decide +kernel
theorem dX6_isBackedByChosen_1 : decode cX6_isBackedByChosen 1 = .ok (.istore_n 2, 1) := by decide +kernel
theorem dX6_isBackedByChosen_2 : decode cX6_isBackedByChosen 2 = .ok (.iconst 0, 1) := by decide +kernel
theorem dX6_isBackedByChosen_3 : decode cX6_isBackedByChosen 3 = .ok (.istore_n 3, 1) := by decide +kernel
theorem dX6_isBackedByChosen_4 : decode cX6_isBackedByChosen 4 = .ok (.iconst 0, 1) := by decide +kernel
theorem dX6_isBackedByChosen_5 : decode cX6_isBackedByChosen 5 = .ok (.istore 4, 2) := by decide +kernel
theorem dX6_isBackedByChosen_7 : decode cX6_isBackedByChosen 7 = .ok (.iload 4, 2) := by decide +kernel
theorem dX6_isBackedByChosen_9 : decode cX6_isBackedByChosen 9 = .ok (.aload_n 0, 1) := by decide +kernel
theorem dX6_isBackedByChosen_10 : decode cX6_isBackedByChosen 10 = .ok (.getfield 11, 3) := by decide +kernel
theorem dX6_isBackedByChosen_13 : decode cX6_isBackedByChosen 13 = .ok (.arraylength, 1) := by decide +kernel
theorem dX6_isBackedByChosen_14 : decode cX6_isBackedByChosen 14 = .ok (.if_icmp .ge 53, 3) := by decide +kernel
theorem dX6_isBackedByChosen_17 : decode cX6_isBackedByChosen 17 = .ok (.iload_n 2, 1) := by decide +kernel
theorem dX6_isBackedByChosen_18 : decode cX6_isBackedByChosen 18 = .ok (.aload_n 0, 1) := by decide +kernel
theorem dX6_isBackedByChosen_19 : decode cX6_isBackedByChosen 19 = .ok (.getfield 44, 3) := by decide +kernel
theorem dX6_isBackedByChosen_22 : decode cX6_isBackedByChosen 22 = .ok (.getfield 168, 3) := by decide +kernel
theorem dX6_isBackedByChosen_25 : decode cX6_isBackedByChosen 25 = .ok (.iload 4, 2) := by decide +kernel
theorem dX6_isBackedByChosen_27 : decode cX6_isBackedByChosen 27 = .ok (.iaload, 1) := by decide +kernel
theorem dX6_isBackedByChosen_28 : decode cX6_isBackedByChosen 28 = .ok (.iconst 1, 1) := by decide +kernel
theorem dX6_isBackedByChosen_29 : decode cX6_isBackedByChosen 29 = .ok (.if_icmp .ne 7, 3) := by decide +kernel
theorem dX6_isBackedByChosen_32 : decode cX6_isBackedByChosen 32 = .ok (.iconst 1, 1) := by decide +kernel
theorem dX6_isBackedByChosen_33 : decode cX6_isBackedByChosen 33 = .ok (.goto 4, 3) := by decide +kernel
theorem dX6_isBackedByChosen_36 : decode cX6_isBackedByChosen 36 = .ok (.iconst 0, 1) := by decide +kernel
theorem dX6_isBackedByChosen_37 : decode cX6_isBackedByChosen 37 = .ok (.iadd, 1) := by decide +kernel
theorem dX6_isBackedByChosen_38 : decode cX6_isBackedByChosen 38 = .ok (.istore_n 2, 1) := by decide +kernel
theorem dX6_isBackedByChosen_39 : decode cX6_isBackedByChosen 39 = .ok (.iload_n 3, 1) := by decide +kernel
theorem dX6_isBackedByChosen_40 : decode cX6_isBackedByChosen 40 = .ok (.aload_n 0, 1) := by decide +kernel
theorem dX6_isBackedByChosen_41 : decode cX6_isBackedByChosen 41 = .ok (.getfield 44, 3) := by decide +kernel
theorem dX6_isBackedByChosen_44 : decode cX6_isBackedByChosen 44 = .ok (.getfield 168, 3) := by decide +kernel
theorem dX6_isBackedByChosen_47 : decode cX6_isBackedByChosen 47 = .ok (.iload 4, 2) := by decide +kernel
theorem dX6_isBackedByChosen_49 : decode cX6_isBackedByChosen 49 = .ok (.iaload, 1) := by decide +kernel
theorem dX6_isBackedByChosen_50 : decode cX6_isBackedByChosen 50 = .ok (.iconst 2, 1) := by decide +kernel
theorem dX6_isBackedByChosen_51 : decode cX6_isBackedByChosen 51 = .ok (.if_icmp .ne 7, 3) := by decide +kernel
theorem dX6_isBackedByChosen_54 : decode cX6_isBackedByChosen 54 = .ok (.iconst 1, 1) := by decide +kernel
theorem dX6_isBackedByChosen_55 : decode cX6_isBackedByChosen 55 = .ok (.goto 4, 3) := by decide +kernel
theorem dX6_isBackedByChosen_58 : decode cX6_isBackedByChosen 58 = .ok (.iconst 0, 1) := by decide +kernel
theorem dX6_isBackedByChosen_59 : decode cX6_isBackedByChosen 59 = .ok (.iadd, 1) := by decide +kernel
theorem dX6_isBackedByChosen_60 : decode cX6_isBackedByChosen 60 = .ok (.istore_n 3, 1) := by decide +kernel
theorem dX6_isBackedByChosen_61 : decode cX6_isBackedByChosen 61 = .ok (.iinc 4 1, 3) := by decide +kernel
theorem dX6_isBackedByChosen_64 : decode cX6_isBackedByChosen 64 = .ok (.goto (-57), 3) := by decide +kernel
theorem dX6_isBackedByChosen_67 : decode cX6_isBackedByChosen 67 = .ok (.iload_n 1, 1) := by decide +kernel
theorem dX6_isBackedByChosen_68 : decode cX6_isBackedByChosen 68 = .ok (.lookupswitch 53 #[(1, 28), (2, 43)], 28) := by decide +kernel
theorem dX6_isBackedByChosen_96 : decode cX6_isBackedByChosen 96 = .ok (.iload_n 2, 1) := by decide +kernel
theorem dX6_isBackedByChosen_97 : decode cX6_isBackedByChosen 97 = .ok (.aload_n 0, 1) := by decide +kernel
theorem dX6_isBackedByChosen_98 : decode cX6_isBackedByChosen 98 = .ok (.getfield 11, 3) := by decide +kernel
theorem dX6_isBackedByChosen_101 : decode cX6_isBackedByChosen 101 = .ok (.arraylength, 1) := by decide +kernel
theorem dX6_isBackedByChosen_102 : decode cX6_isBackedByChosen 102 = .ok (.if_icmp .ne 7, 3) := by decide +kernel
theorem dX6_isBackedByChosen_105 : decode cX6_isBackedByChosen 105 = .ok (.iconst 1, 1) := by decide +kernel
theorem dX6_isBackedByChosen_106 : decode cX6_isBackedByChosen 106 = .ok (.goto 4, 3) := by decide +kernel
theorem dX6_isBackedByChosen_109 : decode cX6_isBackedByChosen 109 = .ok (.iconst 0, 1) := by decide +kernel
theorem dX6_isBackedByChosen_110 : decode cX6_isBackedByChosen 110 = .ok (.ireturn, 1) := by decide +kernel
theorem dX6_isBackedByChosen_111 : decode cX6_isBackedByChosen 111 = .ok (.iload_n 3, 1) := by decide +kernel
theorem dX6_isBackedByChosen_112 : decode cX6_isBackedByChosen 112 = .ok (.ifCond .le 7, 3) := by decide +kernel
theorem dX6_isBackedByChosen_115 : decode cX6_isBackedByChosen 115 = .ok (.iconst 1, 1) := by decide +kernel
theorem dX6_isBackedByChosen_116 : decode cX6_isBackedByChosen 116 = .ok (.goto 4, 3) := by decide +kernel
theorem dX6_isBackedByChosen_119 : decode cX6_isBackedByChosen 119 = .ok (.iconst 0, 1) := by decide +kernel
theorem dX6_isBackedByChosen_120 : decode cX6_isBackedByChosen 120 = .ok (.ireturn, 1) := by decide +kernel
theorem dX6_isBackedByChosen_121 : decode cX6_isBackedByChosen 121 = .ok (.iconst 1, 1) := by decide +kernel
theorem dX6_isBackedByChosen_122 : decode cX6_isBackedByChosen 122 = .ok (.ireturn, 1) := by decide +kernel
theorem dX6_memberOf_0 : decode cX6_memberOf 0 = .ok (.iload_n 1, 1) := by decide +kernel
theorem dX6_memberOf_1 : decode cX6_memberOf 1 = .ok (.tableswitch 71 0 2 #[27, 43, 59], 27) := by decide +kernel
theorem dX6_memberOf_28 : decode cX6_memberOf 28 = .ok (.iload_n 2, 1) := by decide +kernel
theorem dX6_memberOf_29 : decode cX6_memberOf 29 = .ok (.aload_n 0, 1) := by decide +kernel
theorem dX6_memberOf_30 : decode cX6_memberOf 30 = .ok (.getfield 11, 3) := by decide +kernel
theorem dX6_memberOf_33 : decode cX6_memberOf 33 = .ok (.arraylength, 1) := by decide +kernel
theorem dX6_memberOf_34 : decode cX6_memberOf 34 = .ok (.invokestatic 48, 3) := by decide +kernel
theorem dX6_memberOf_37 : decode cX6_memberOf 37 = .ok (.aload_n 0, 1) := by decide +kernel
theorem dX6_memberOf_38 : decode cX6_memberOf 38 = .ok (.getfield 11, 3) := by decide +kernel
theorem dX6_memberOf_41 : decode cX6_memberOf 41 = .ok (.iload_n 2, 1) := by decide +kernel
theorem dX6_memberOf_42 : decode cX6_memberOf 42 = .ok (.aaload, 1) := by decide +kernel
theorem dX6_memberOf_43 : decode cX6_memberOf 43 = .ok (.areturn, 1) := by decide +kernel
theorem dX6_memberOf_44 : decode cX6_memberOf 44 = .ok (.iload_n 2, 1) := by decide +kernel
theorem dX6_memberOf_45 : decode cX6_memberOf 45 = .ok (.aload_n 0, 1) := by decide +kernel
theorem dX6_memberOf_46 : decode cX6_memberOf 46 = .ok (.getfield 18, 3) := by decide +kernel
theorem dX6_memberOf_49 : decode cX6_memberOf 49 = .ok (.arraylength, 1) := by decide +kernel
theorem dX6_memberOf_50 : decode cX6_memberOf 50 = .ok (.invokestatic 48, 3) := by decide +kernel
theorem dX6_memberOf_53 : decode cX6_memberOf 53 = .ok (.aload_n 0, 1) := by decide +kernel
theorem dX6_memberOf_54 : decode cX6_memberOf 54 = .ok (.getfield 18, 3) := by decide +kernel
theorem dX6_memberOf_57 : decode cX6_memberOf 57 = .ok (.iload_n 2, 1) := by decide +kernel
theorem dX6_memberOf_58 : decode cX6_memberOf 58 = .ok (.aaload, 1) := by decide +kernel
theorem dX6_memberOf_59 : decode cX6_memberOf 59 = .ok (.areturn, 1) := by decide +kernel
theorem dX6_memberOf_60 : decode cX6_memberOf 60 = .ok (.iload_n 2, 1) := by decide +kernel
theorem dX6_memberOf_61 : decode cX6_memberOf 61 = .ok (.iconst 3, 1) := by decide +kernel
theorem dX6_memberOf_62 : decode cX6_memberOf 62 = .ok (.invokestatic 48, 3) := by decide +kernel
theorem dX6_memberOf_65 : decode cX6_memberOf 65 = .ok (.aload_n 0, 1) := by decide +kernel
theorem dX6_memberOf_66 : decode cX6_memberOf 66 = .ok (.getfield 27, 3) := by decide +kernel
theorem dX6_memberOf_69 : decode cX6_memberOf 69 = .ok (.iload_n 2, 1) := by decide +kernel
theorem dX6_memberOf_70 : decode cX6_memberOf 70 = .ok (.aaload, 1) := by decide +kernel
theorem dX6_memberOf_71 : decode cX6_memberOf 71 = .ok (.areturn, 1) := by decide +kernel
theorem dX6_memberOf_72 : decode cX6_memberOf 72 = .ok (.new 111, 3) := by decide +kernel
theorem dX6_memberOf_75 : decode cX6_memberOf 75 = .ok (.dup, 1) := by decide +kernel
theorem dX6_memberOf_76 : decode cX6_memberOf 76 = .ok (.ldc 200, 2) := by decide +kernel
theorem dX6_memberOf_78 : decode cX6_memberOf 78 = .ok (.invokespecial 115, 3) := by decide +kernel
theorem dX6_memberOf_81 : decode cX6_memberOf 81 = .ok (.athrow, 1) := by decide +kernel
theorem dX6_propose_0 : decode cX6_propose 0 = .ok (.aload_n 0, 1) := by decide +kernel
theorem dX6_propose_1 : decode cX6_propose 1 = .ok (.getfield 11, 3) := by decide +kernel
theorem dX6_propose_4 : decode cX6_propose 4 = .ok (.iload_n 1, 1) := by decide +kernel
theorem dX6_propose_5 : decode cX6_propose 5 = .ok (.aaload, 1) := by decide +kernel
theorem dX6_propose_6 : decode cX6_propose 6 = .ok (.astore 4, 2) := by decide +kernel
theorem dX6_propose_8 : decode cX6_propose 8 = .ok (.aload 4, 2) := by decide +kernel
theorem dX6_propose_10 : decode cX6_propose 10 = .ok (.getfield 59, 3) := by decide +kernel
theorem dX6_propose_13 : decode cX6_propose 13 = .ok (.ifCond .eq 26, 3) := by decide +kernel
theorem dX6_propose_16 : decode cX6_propose 16 = .ok (.aload 4, 2) := by decide +kernel
theorem dX6_propose_18 : decode cX6_propose 18 = .ok (.getfield 55, 3) := by decide +kernel
theorem dX6_propose_21 : decode cX6_propose 21 = .ok (.ifCond .ne 18, 3) := by decide +kernel
theorem dX6_propose_24 : decode cX6_propose 24 = .ok (.aload_n 0, 1) := by decide +kernel
theorem dX6_propose_25 : decode cX6_propose 25 = .ok (.getfield 37, 3) := by decide +kernel
theorem dX6_propose_28 : decode cX6_propose 28 = .ok (.aload_n 0, 1) := by decide +kernel
theorem dX6_propose_29 : decode cX6_propose 29 = .ok (.getfield 18, 3) := by decide +kernel
theorem dX6_propose_32 : decode cX6_propose 32 = .ok (.arraylength, 1) := by decide +kernel
theorem dX6_propose_33 : decode cX6_propose 33 = .ok (.invokevirtual 63, 3) := by decide +kernel
theorem dX6_propose_36 : decode cX6_propose 36 = .ok (.ifCond .ne 5, 3) := by decide +kernel
theorem dX6_propose_39 : decode cX6_propose 39 = .ok (.iconst 0, 1) := by decide +kernel
theorem dX6_propose_40 : decode cX6_propose 40 = .ok (.ireturn, 1) := by decide +kernel
theorem dX6_propose_41 : decode cX6_propose 41 = .ok (.aload 4, 2) := by decide +kernel
theorem dX6_propose_43 : decode cX6_propose 43 = .ok (.iload_n 2, 1) := by decide +kernel
theorem dX6_propose_44 : decode cX6_propose 44 = .ok (.putfield 55, 3) := by decide +kernel
theorem dX6_propose_47 : decode cX6_propose 47 = .ok (.aload 4, 2) := by decide +kernel
theorem dX6_propose_49 : decode cX6_propose 49 = .ok (.iload_n 3, 1) := by decide +kernel
theorem dX6_propose_50 : decode cX6_propose 50 = .ok (.putfield 67, 3) := by decide +kernel
theorem dX6_propose_53 : decode cX6_propose 53 = .ok (.aload_n 0, 1) := by decide +kernel
theorem dX6_propose_54 : decode cX6_propose 54 = .ok (.iload_n 1, 1) := by decide +kernel
theorem dX6_propose_55 : decode cX6_propose 55 = .ok (.iconst 0, 1) := by decide +kernel
theorem dX6_propose_56 : decode cX6_propose 56 = .ok (.iload_n 3, 1) := by decide +kernel
theorem dX6_propose_57 : decode cX6_propose 57 = .ok (.invokevirtual 70, 3) := by decide +kernel
theorem dX6_propose_60 : decode cX6_propose 60 = .ok (.iconst 1, 1) := by decide +kernel
theorem dX6_propose_61 : decode cX6_propose 61 = .ok (.ireturn, 1) := by decide +kernel
theorem dX6_sendVotes_0 : decode cX6_sendVotes 0 = .ok (.iconst 0, 1) := by decide +kernel
theorem dX6_sendVotes_1 : decode cX6_sendVotes 1 = .ok (.istore 4, 2) := by decide +kernel
theorem dX6_sendVotes_3 : decode cX6_sendVotes 3 = .ok (.iload 4, 2) := by decide +kernel
theorem dX6_sendVotes_5 : decode cX6_sendVotes 5 = .ok (.aload_n 0, 1) := by decide +kernel
theorem dX6_sendVotes_6 : decode cX6_sendVotes 6 = .ok (.getfield 18, 3) := by decide +kernel
theorem dX6_sendVotes_9 : decode cX6_sendVotes 9 = .ok (.arraylength, 1) := by decide +kernel
theorem dX6_sendVotes_10 : decode cX6_sendVotes 10 = .ok (.if_icmp .ge 23, 3) := by decide +kernel
theorem dX6_sendVotes_13 : decode cX6_sendVotes 13 = .ok (.aload_n 0, 1) := by decide +kernel
theorem dX6_sendVotes_14 : decode cX6_sendVotes 14 = .ok (.getfield 37, 3) := by decide +kernel
theorem dX6_sendVotes_17 : decode cX6_sendVotes 17 = .ok (.iconst 0, 1) := by decide +kernel
theorem dX6_sendVotes_18 : decode cX6_sendVotes 18 = .ok (.iload 4, 2) := by decide +kernel
theorem dX6_sendVotes_20 : decode cX6_sendVotes 20 = .ok (.iconst (-1), 1) := by decide +kernel
theorem dX6_sendVotes_21 : decode cX6_sendVotes 21 = .ok (.iload_n 1, 1) := by decide +kernel
theorem dX6_sendVotes_22 : decode cX6_sendVotes 22 = .ok (.iload_n 2, 1) := by decide +kernel
theorem dX6_sendVotes_23 : decode cX6_sendVotes 23 = .ok (.iload_n 3, 1) := by decide +kernel
theorem dX6_sendVotes_24 : decode cX6_sendVotes 24 = .ok (.invokevirtual 74, 3) := by decide +kernel
theorem dX6_sendVotes_27 : decode cX6_sendVotes 27 = .ok (.iinc 4 1, 3) := by decide +kernel
theorem dX6_sendVotes_30 : decode cX6_sendVotes 30 = .ok (.goto (-27), 3) := by decide +kernel
theorem dX6_sendVotes_33 : decode cX6_sendVotes 33 = .ok (.return_, 1) := by decide +kernel
theorem dX6_sendDecisions_0 : decode cX6_sendDecisions 0 = .ok (.iconst 0, 1) := by decide +kernel
theorem dX6_sendDecisions_1 : decode cX6_sendDecisions 1 = .ok (.istore_n 2, 1) := by decide +kernel
theorem dX6_sendDecisions_2 : decode cX6_sendDecisions 2 = .ok (.iload_n 2, 1) := by decide +kernel
theorem dX6_sendDecisions_3 : decode cX6_sendDecisions 3 = .ok (.aload_n 0, 1) := by decide +kernel
theorem dX6_sendDecisions_4 : decode cX6_sendDecisions 4 = .ok (.getfield 11, 3) := by decide +kernel
theorem dX6_sendDecisions_7 : decode cX6_sendDecisions 7 = .ok (.arraylength, 1) := by decide +kernel
theorem dX6_sendDecisions_8 : decode cX6_sendDecisions 8 = .ok (.if_icmp .ge 22, 3) := by decide +kernel
theorem dX6_sendDecisions_11 : decode cX6_sendDecisions 11 = .ok (.aload_n 0, 1) := by decide +kernel
theorem dX6_sendDecisions_12 : decode cX6_sendDecisions 12 = .ok (.getfield 37, 3) := by decide +kernel
theorem dX6_sendDecisions_15 : decode cX6_sendDecisions 15 = .ok (.iconst 4, 1) := by decide +kernel
theorem dX6_sendDecisions_16 : decode cX6_sendDecisions 16 = .ok (.iload_n 2, 1) := by decide +kernel
theorem dX6_sendDecisions_17 : decode cX6_sendDecisions 17 = .ok (.iconst (-1), 1) := by decide +kernel
theorem dX6_sendDecisions_18 : decode cX6_sendDecisions 18 = .ok (.iconst (-1), 1) := by decide +kernel
theorem dX6_sendDecisions_19 : decode cX6_sendDecisions 19 = .ok (.iconst (-1), 1) := by decide +kernel
theorem dX6_sendDecisions_20 : decode cX6_sendDecisions 20 = .ok (.iload_n 1, 1) := by decide +kernel
theorem dX6_sendDecisions_21 : decode cX6_sendDecisions 21 = .ok (.invokevirtual 74, 3) := by decide +kernel
theorem dX6_sendDecisions_24 : decode cX6_sendDecisions 24 = .ok (.iinc 2 1, 3) := by decide +kernel
theorem dX6_sendDecisions_27 : decode cX6_sendDecisions 27 = .ok (.goto (-25), 3) := by decide +kernel
theorem dX6_sendDecisions_30 : decode cX6_sendDecisions 30 = .ok (.return_, 1) := by decide +kernel
theorem dX6_bring_0 : decode cX6_bring 0 = .ok (.aload_n 0, 1) := by decide +kernel
theorem dX6_bring_1 : decode cX6_bring 1 = .ok (.getfield 37, 3) := by decide +kernel
theorem dX6_bring_4 : decode cX6_bring 4 = .ok (.iload_n 1, 1) := by decide +kernel
theorem dX6_bring_5 : decode cX6_bring 5 = .ok (.iconst 0, 1) := by decide +kernel
theorem dX6_bring_6 : decode cX6_bring 6 = .ok (.invokevirtual 128, 3) := by decide +kernel
theorem dX6_bring_9 : decode cX6_bring 9 = .ok (.istore_n 2, 1) := by decide +kernel
theorem dX6_bring_10 : decode cX6_bring 10 = .ok (.aload_n 0, 1) := by decide +kernel
theorem dX6_bring_11 : decode cX6_bring 11 = .ok (.getfield 37, 3) := by decide +kernel
theorem dX6_bring_14 : decode cX6_bring 14 = .ok (.iload_n 1, 1) := by decide +kernel
theorem dX6_bring_15 : decode cX6_bring 15 = .ok (.iconst 1, 1) := by decide +kernel
theorem dX6_bring_16 : decode cX6_bring 16 = .ok (.invokevirtual 128, 3) := by decide +kernel
theorem dX6_bring_19 : decode cX6_bring 19 = .ok (.istore_n 3, 1) := by decide +kernel
theorem dX6_bring_20 : decode cX6_bring 20 = .ok (.aload_n 0, 1) := by decide +kernel
theorem dX6_bring_21 : decode cX6_bring 21 = .ok (.iload_n 2, 1) := by decide +kernel
theorem dX6_bring_22 : decode cX6_bring 22 = .ok (.iload_n 3, 1) := by decide +kernel
theorem dX6_bring_23 : decode cX6_bring 23 = .ok (.invokevirtual 202, 3) := by decide +kernel
theorem dX6_bring_26 : decode cX6_bring 26 = .ok (.istore 4, 2) := by decide +kernel
theorem dX6_bring_28 : decode cX6_bring 28 = .ok (.iload 4, 2) := by decide +kernel
theorem dX6_bring_30 : decode cX6_bring 30 = .ok (.ifCond .eq 13, 3) := by decide +kernel
theorem dX6_bring_33 : decode cX6_bring 33 = .ok (.aload_n 0, 1) := by decide +kernel
theorem dX6_bring_34 : decode cX6_bring 34 = .ok (.iload_n 1, 1) := by decide +kernel
theorem dX6_bring_35 : decode cX6_bring 35 = .ok (.iload_n 2, 1) := by decide +kernel
theorem dX6_bring_36 : decode cX6_bring 36 = .ok (.iload_n 3, 1) := by decide +kernel
theorem dX6_bring_37 : decode cX6_bring 37 = .ok (.invokevirtual 206, 3) := by decide +kernel
theorem dX6_bring_40 : decode cX6_bring 40 = .ok (.goto 4, 3) := by decide +kernel
theorem dX6_bring_43 : decode cX6_bring 43 = .ok (.iconst 0, 1) := by decide +kernel
theorem dX6_bring_44 : decode cX6_bring 44 = .ok (.istore 5, 2) := by decide +kernel
theorem dX6_bring_46 : decode cX6_bring 46 = .ok (.aload_n 0, 1) := by decide +kernel
theorem dX6_bring_47 : decode cX6_bring 47 = .ok (.getfield 37, 3) := by decide +kernel
theorem dX6_bring_50 : decode cX6_bring 50 = .ok (.iload 5, 2) := by decide +kernel
theorem dX6_bring_52 : decode cX6_bring 52 = .ok (.iconst 1, 1) := by decide +kernel
theorem dX6_bring_53 : decode cX6_bring 53 = .ok (.isub, 1) := by decide +kernel
theorem dX6_bring_54 : decode cX6_bring 54 = .ok (.invokevirtual 63, 3) := by decide +kernel
theorem dX6_bring_57 : decode cX6_bring 57 = .ok (.ifCond .ne 5, 3) := by decide +kernel
theorem dX6_bring_60 : decode cX6_bring 60 = .ok (.iconst (-1), 1) := by decide +kernel
theorem dX6_bring_61 : decode cX6_bring 61 = .ok (.ireturn, 1) := by decide +kernel
theorem dX6_bring_62 : decode cX6_bring 62 = .ok (.iload 4, 2) := by decide +kernel
theorem dX6_bring_64 : decode cX6_bring 64 = .ok (.ifCond .eq 10, 3) := by decide +kernel
theorem dX6_bring_67 : decode cX6_bring 67 = .ok (.aload_n 0, 1) := by decide +kernel
theorem dX6_bring_68 : decode cX6_bring 68 = .ok (.iload_n 1, 1) := by decide +kernel
theorem dX6_bring_69 : decode cX6_bring 69 = .ok (.iload_n 2, 1) := by decide +kernel
theorem dX6_bring_70 : decode cX6_bring 70 = .ok (.iload_n 3, 1) := by decide +kernel
theorem dX6_bring_71 : decode cX6_bring 71 = .ok (.invokevirtual 210, 3) := by decide +kernel
theorem dX6_bring_74 : decode cX6_bring 74 = .ok (.aload_n 0, 1) := by decide +kernel
theorem dX6_bring_75 : decode cX6_bring 75 = .ok (.getfield 37, 3) := by decide +kernel
theorem dX6_bring_78 : decode cX6_bring 78 = .ok (.iload_n 1, 1) := by decide +kernel
theorem dX6_bring_79 : decode cX6_bring 79 = .ok (.invokevirtual 105, 3) := by decide +kernel
theorem dX6_bring_82 : decode cX6_bring 82 = .ok (.aload_n 0, 1) := by decide +kernel
theorem dX6_bring_83 : decode cX6_bring 83 = .ok (.dup, 1) := by decide +kernel
theorem dX6_bring_84 : decode cX6_bring 84 = .ok (.getfield 174, 3) := by decide +kernel
theorem dX6_bring_87 : decode cX6_bring 87 = .ok (.iconst 1, 1) := by decide +kernel
theorem dX6_bring_88 : decode cX6_bring 88 = .ok (.iadd, 1) := by decide +kernel
theorem dX6_bring_89 : decode cX6_bring 89 = .ok (.putfield 174, 3) := by decide +kernel
theorem dX6_bring_92 : decode cX6_bring 92 = .ok (.iload_n 2, 1) := by decide +kernel
theorem dX6_bring_93 : decode cX6_bring 93 = .ok (.ireturn, 1) := by decide +kernel
theorem dX6_isUp_0 : decode cX6_isUp 0 = .ok (.iload_n 1, 1) := by decide +kernel
theorem dX6_isUp_1 : decode cX6_isUp 1 = .ok (.tableswitch 128 0 5 #[39, 70, 39, 70, 97, 70], 39) := by decide +kernel
theorem dX6_isUp_40 : decode cX6_isUp 40 = .ok (.iload_n 2, 1) := by decide +kernel
theorem dX6_isUp_41 : decode cX6_isUp 41 = .ok (.ifCond .lt 28, 3) := by decide +kernel
theorem dX6_isUp_44 : decode cX6_isUp 44 = .ok (.iload_n 2, 1) := by decide +kernel
theorem dX6_isUp_45 : decode cX6_isUp 45 = .ok (.aload_n 0, 1) := by decide +kernel
theorem dX6_isUp_46 : decode cX6_isUp 46 = .ok (.getfield 18, 3) := by decide +kernel
theorem dX6_isUp_49 : decode cX6_isUp 49 = .ok (.arraylength, 1) := by decide +kernel
theorem dX6_isUp_50 : decode cX6_isUp 50 = .ok (.if_icmp .ge 19, 3) := by decide +kernel
theorem dX6_isUp_53 : decode cX6_isUp 53 = .ok (.aload_n 0, 1) := by decide +kernel
theorem dX6_isUp_54 : decode cX6_isUp 54 = .ok (.getfield 18, 3) := by decide +kernel
theorem dX6_isUp_57 : decode cX6_isUp 57 = .ok (.iload_n 2, 1) := by decide +kernel
theorem dX6_isUp_58 : decode cX6_isUp 58 = .ok (.aaload, 1) := by decide +kernel
theorem dX6_isUp_59 : decode cX6_isUp 59 = .ok (.getfield 143, 3) := by decide +kernel
theorem dX6_isUp_62 : decode cX6_isUp 62 = .ok (.ifCond .eq 7, 3) := by decide +kernel
theorem dX6_isUp_65 : decode cX6_isUp 65 = .ok (.iconst 1, 1) := by decide +kernel
theorem dX6_isUp_66 : decode cX6_isUp 66 = .ok (.goto 4, 3) := by decide +kernel
theorem dX6_isUp_69 : decode cX6_isUp 69 = .ok (.iconst 0, 1) := by decide +kernel
theorem dX6_isUp_70 : decode cX6_isUp 70 = .ok (.ireturn, 1) := by decide +kernel
theorem dX6_isUp_71 : decode cX6_isUp 71 = .ok (.iload_n 2, 1) := by decide +kernel
theorem dX6_isUp_72 : decode cX6_isUp 72 = .ok (.ifCond .lt 24, 3) := by decide +kernel
theorem dX6_isUp_75 : decode cX6_isUp 75 = .ok (.iload_n 2, 1) := by decide +kernel
theorem dX6_isUp_76 : decode cX6_isUp 76 = .ok (.iconst 3, 1) := by decide +kernel
theorem dX6_isUp_77 : decode cX6_isUp 77 = .ok (.if_icmp .ge 19, 3) := by decide +kernel
theorem dX6_isUp_80 : decode cX6_isUp 80 = .ok (.aload_n 0, 1) := by decide +kernel
theorem dX6_isUp_81 : decode cX6_isUp 81 = .ok (.getfield 27, 3) := by decide +kernel
theorem dX6_isUp_84 : decode cX6_isUp 84 = .ok (.iload_n 2, 1) := by decide +kernel
theorem dX6_isUp_85 : decode cX6_isUp 85 = .ok (.aaload, 1) := by decide +kernel
theorem dX6_isUp_86 : decode cX6_isUp 86 = .ok (.getfield 88, 3) := by decide +kernel
theorem dX6_isUp_89 : decode cX6_isUp 89 = .ok (.ifCond .eq 7, 3) := by decide +kernel
theorem dX6_isUp_92 : decode cX6_isUp 92 = .ok (.iconst 1, 1) := by decide +kernel
theorem dX6_isUp_93 : decode cX6_isUp 93 = .ok (.goto 4, 3) := by decide +kernel
theorem dX6_isUp_96 : decode cX6_isUp 96 = .ok (.iconst 0, 1) := by decide +kernel
theorem dX6_isUp_97 : decode cX6_isUp 97 = .ok (.ireturn, 1) := by decide +kernel
theorem dX6_isUp_98 : decode cX6_isUp 98 = .ok (.iload_n 2, 1) := by decide +kernel
theorem dX6_isUp_99 : decode cX6_isUp 99 = .ok (.ifCond .lt 28, 3) := by decide +kernel
theorem dX6_isUp_102 : decode cX6_isUp 102 = .ok (.iload_n 2, 1) := by decide +kernel
theorem dX6_isUp_103 : decode cX6_isUp 103 = .ok (.aload_n 0, 1) := by decide +kernel
theorem dX6_isUp_104 : decode cX6_isUp 104 = .ok (.getfield 11, 3) := by decide +kernel
theorem dX6_isUp_107 : decode cX6_isUp 107 = .ok (.arraylength, 1) := by decide +kernel
theorem dX6_isUp_108 : decode cX6_isUp 108 = .ok (.if_icmp .ge 19, 3) := by decide +kernel
theorem dX6_isUp_111 : decode cX6_isUp 111 = .ok (.aload_n 0, 1) := by decide +kernel
theorem dX6_isUp_112 : decode cX6_isUp 112 = .ok (.getfield 11, 3) := by decide +kernel
theorem dX6_isUp_115 : decode cX6_isUp 115 = .ok (.iload_n 2, 1) := by decide +kernel
theorem dX6_isUp_116 : decode cX6_isUp 116 = .ok (.aaload, 1) := by decide +kernel
theorem dX6_isUp_117 : decode cX6_isUp 117 = .ok (.getfield 59, 3) := by decide +kernel
theorem dX6_isUp_120 : decode cX6_isUp 120 = .ok (.ifCond .eq 7, 3) := by decide +kernel
theorem dX6_isUp_123 : decode cX6_isUp 123 = .ok (.iconst 1, 1) := by decide +kernel
theorem dX6_isUp_124 : decode cX6_isUp 124 = .ok (.goto 4, 3) := by decide +kernel
theorem dX6_isUp_127 : decode cX6_isUp 127 = .ok (.iconst 0, 1) := by decide +kernel
theorem dX6_isUp_128 : decode cX6_isUp 128 = .ok (.ireturn, 1) := by decide +kernel
theorem dX6_isUp_129 : decode cX6_isUp 129 = .ok (.iconst 0, 1) := by decide +kernel
theorem dX6_isUp_130 : decode cX6_isUp 130 = .ok (.ireturn, 1) := by decide +kernel
theorem dX6_answersTo_0 : decode cX6_answersTo 0 = .ok (.aload_n 0, 1) := by decide +kernel
theorem dX6_answersTo_1 : decode cX6_answersTo 1 = .ok (.getfield 37, 3) := by decide +kernel
theorem dX6_answersTo_4 : decode cX6_answersTo 4 = .ok (.iload_n 1, 1) := by decide +kernel
theorem dX6_answersTo_5 : decode cX6_answersTo 5 = .ok (.iconst 4, 1) := by decide +kernel
theorem dX6_answersTo_6 : decode cX6_answersTo 6 = .ok (.invokevirtual 128, 3) := by decide +kernel
theorem dX6_answersTo_9 : decode cX6_answersTo 9 = .ok (.istore 4, 2) := by decide +kernel
theorem dX6_answersTo_11 : decode cX6_answersTo 11 = .ok (.aload_n 0, 1) := by decide +kernel
theorem dX6_answersTo_12 : decode cX6_answersTo 12 = .ok (.getfield 37, 3) := by decide +kernel
theorem dX6_answersTo_15 : decode cX6_answersTo 15 = .ok (.iload_n 1, 1) := by decide +kernel
theorem dX6_answersTo_16 : decode cX6_answersTo 16 = .ok (.iconst 2, 1) := by decide +kernel
theorem dX6_answersTo_17 : decode cX6_answersTo 17 = .ok (.invokevirtual 128, 3) := by decide +kernel
theorem dX6_answersTo_20 : decode cX6_answersTo 20 = .ok (.istore 5, 2) := by decide +kernel
theorem dX6_answersTo_22 : decode cX6_answersTo 22 = .ok (.iload_n 2, 1) := by decide +kernel
theorem dX6_answersTo_23 : decode cX6_answersTo 23 = .ok (.tableswitch 238 0 5 #[37, 57, 144, 164, 238, 220], 37) := by decide +kernel
theorem dX6_answersTo_60 : decode cX6_answersTo 60 = .ok (.iload 4, 2) := by decide +kernel
theorem dX6_answersTo_62 : decode cX6_answersTo 62 = .ok (.aload_n 0, 1) := by decide +kernel
theorem dX6_answersTo_63 : decode cX6_answersTo 63 = .ok (.getfield 18, 3) := by decide +kernel
theorem dX6_answersTo_66 : decode cX6_answersTo 66 = .ok (.iload_n 3, 1) := by decide +kernel
theorem dX6_answersTo_67 : decode cX6_answersTo 67 = .ok (.aaload, 1) := by decide +kernel
theorem dX6_answersTo_68 : decode cX6_answersTo 68 = .ok (.getfield 140, 3) := by decide +kernel
theorem dX6_answersTo_71 : decode cX6_answersTo 71 = .ok (.if_icmp .lt 7, 3) := by decide +kernel
theorem dX6_answersTo_74 : decode cX6_answersTo 74 = .ok (.iconst 3, 1) := by decide +kernel
theorem dX6_answersTo_75 : decode cX6_answersTo 75 = .ok (.goto 4, 3) := by decide +kernel
theorem dX6_answersTo_78 : decode cX6_answersTo 78 = .ok (.iconst 0, 1) := by decide +kernel
theorem dX6_answersTo_79 : decode cX6_answersTo 79 = .ok (.ireturn, 1) := by decide +kernel
theorem dX6_answersTo_80 : decode cX6_answersTo 80 = .ok (.aload_n 0, 1) := by decide +kernel
theorem dX6_answersTo_81 : decode cX6_answersTo 81 = .ok (.getfield 37, 3) := by decide +kernel
theorem dX6_answersTo_84 : decode cX6_answersTo 84 = .ok (.iload_n 1, 1) := by decide +kernel
theorem dX6_answersTo_85 : decode cX6_answersTo 85 = .ok (.iconst 3, 1) := by decide +kernel
theorem dX6_answersTo_86 : decode cX6_answersTo 86 = .ok (.invokevirtual 128, 3) := by decide +kernel
theorem dX6_answersTo_89 : decode cX6_answersTo 89 = .ok (.istore 6, 2) := by decide +kernel
theorem dX6_answersTo_91 : decode cX6_answersTo 91 = .ok (.aload_n 0, 1) := by decide +kernel
theorem dX6_answersTo_92 : decode cX6_answersTo 92 = .ok (.getfield 27, 3) := by decide +kernel
theorem dX6_answersTo_95 : decode cX6_answersTo 95 = .ok (.iload_n 3, 1) := by decide +kernel
theorem dX6_answersTo_96 : decode cX6_answersTo 96 = .ok (.aaload, 1) := by decide +kernel
theorem dX6_answersTo_97 : decode cX6_answersTo 97 = .ok (.iload 6, 2) := by decide +kernel
theorem dX6_answersTo_99 : decode cX6_answersTo 99 = .ok (.iload 5, 2) := by decide +kernel
theorem dX6_answersTo_101 : decode cX6_answersTo 101 = .ok (.iload 4, 2) := by decide +kernel
theorem dX6_answersTo_103 : decode cX6_answersTo 103 = .ok (.aload_n 0, 1) := by decide +kernel
theorem dX6_answersTo_104 : decode cX6_answersTo 104 = .ok (.getfield 37, 3) := by decide +kernel
theorem dX6_answersTo_107 : decode cX6_answersTo 107 = .ok (.iload_n 1, 1) := by decide +kernel
theorem dX6_answersTo_108 : decode cX6_answersTo 108 = .ok (.iconst 5, 1) := by decide +kernel
theorem dX6_answersTo_109 : decode cX6_answersTo 109 = .ok (.invokevirtual 128, 3) := by decide +kernel
theorem dX6_answersTo_112 : decode cX6_answersTo 112 = .ok (.invokestatic 213, 3) := by decide +kernel
theorem dX6_answersTo_115 : decode cX6_answersTo 115 = .ok (.invokevirtual 216, 3) := by decide +kernel
theorem dX6_answersTo_118 : decode cX6_answersTo 118 = .ok (.istore 7, 2) := by decide +kernel
theorem dX6_answersTo_120 : decode cX6_answersTo 120 = .ok (.aload_n 0, 1) := by decide +kernel
theorem dX6_answersTo_121 : decode cX6_answersTo 121 = .ok (.getfield 27, 3) := by decide +kernel
theorem dX6_answersTo_124 : decode cX6_answersTo 124 = .ok (.iload_n 3, 1) := by decide +kernel
theorem dX6_answersTo_125 : decode cX6_answersTo 125 = .ok (.aaload, 1) := by decide +kernel
theorem dX6_answersTo_126 : decode cX6_answersTo 126 = .ok (.iload 6, 2) := by decide +kernel
theorem dX6_answersTo_128 : decode cX6_answersTo 128 = .ok (.iload 7, 2) := by decide +kernel
theorem dX6_answersTo_130 : decode cX6_answersTo 130 = .ok (.invokevirtual 219, 3) := by decide +kernel
theorem dX6_answersTo_133 : decode cX6_answersTo 133 = .ok (.aload_n 0, 1) := by decide +kernel
theorem dX6_answersTo_134 : decode cX6_answersTo 134 = .ok (.getfield 27, 3) := by decide +kernel
theorem dX6_answersTo_137 : decode cX6_answersTo 137 = .ok (.iload_n 3, 1) := by decide +kernel
theorem dX6_answersTo_138 : decode cX6_answersTo 138 = .ok (.aaload, 1) := by decide +kernel
theorem dX6_answersTo_139 : decode cX6_answersTo 139 = .ok (.getfield 85, 3) := by decide +kernel
theorem dX6_answersTo_142 : decode cX6_answersTo 142 = .ok (.if_icmp .eq 7, 3) := by decide +kernel
theorem dX6_answersTo_145 : decode cX6_answersTo 145 = .ok (.iconst 1, 1) := by decide +kernel
theorem dX6_answersTo_146 : decode cX6_answersTo 146 = .ok (.goto 4, 3) := by decide +kernel
theorem dX6_answersTo_149 : decode cX6_answersTo 149 = .ok (.iconst 0, 1) := by decide +kernel
theorem dX6_answersTo_150 : decode cX6_answersTo 150 = .ok (.istore 8, 2) := by decide +kernel
theorem dX6_answersTo_152 : decode cX6_answersTo 152 = .ok (.iload 8, 2) := by decide +kernel
theorem dX6_answersTo_154 : decode cX6_answersTo 154 = .ok (.ifCond .eq 11, 3) := by decide +kernel
theorem dX6_answersTo_157 : decode cX6_answersTo 157 = .ok (.aload_n 0, 1) := by decide +kernel
theorem dX6_answersTo_158 : decode cX6_answersTo 158 = .ok (.getfield 11, 3) := by decide +kernel
theorem dX6_answersTo_161 : decode cX6_answersTo 161 = .ok (.arraylength, 1) := by decide +kernel
theorem dX6_answersTo_162 : decode cX6_answersTo 162 = .ok (.goto 4, 3) := by decide +kernel
theorem dX6_answersTo_165 : decode cX6_answersTo 165 = .ok (.iconst 0, 1) := by decide +kernel
theorem dX6_answersTo_166 : decode cX6_answersTo 166 = .ok (.ireturn, 1) := by decide +kernel
theorem dX6_answersTo_167 : decode cX6_answersTo 167 = .ok (.iload 4, 2) := by decide +kernel
theorem dX6_answersTo_169 : decode cX6_answersTo 169 = .ok (.aload_n 0, 1) := by decide +kernel
theorem dX6_answersTo_170 : decode cX6_answersTo 170 = .ok (.getfield 18, 3) := by decide +kernel
theorem dX6_answersTo_173 : decode cX6_answersTo 173 = .ok (.iload_n 3, 1) := by decide +kernel
theorem dX6_answersTo_174 : decode cX6_answersTo 174 = .ok (.aaload, 1) := by decide +kernel
theorem dX6_answersTo_175 : decode cX6_answersTo 175 = .ok (.getfield 140, 3) := by decide +kernel
theorem dX6_answersTo_178 : decode cX6_answersTo 178 = .ok (.if_icmp .le 7, 3) := by decide +kernel
theorem dX6_answersTo_181 : decode cX6_answersTo 181 = .ok (.iconst 1, 1) := by decide +kernel
theorem dX6_answersTo_182 : decode cX6_answersTo 182 = .ok (.goto 4, 3) := by decide +kernel
theorem dX6_answersTo_185 : decode cX6_answersTo 185 = .ok (.iconst 0, 1) := by decide +kernel
theorem dX6_answersTo_186 : decode cX6_answersTo 186 = .ok (.ireturn, 1) := by decide +kernel
theorem dX6_answersTo_187 : decode cX6_answersTo 187 = .ok (.aload_n 0, 1) := by decide +kernel
theorem dX6_answersTo_188 : decode cX6_answersTo 188 = .ok (.getfield 27, 3) := by decide +kernel
theorem dX6_answersTo_191 : decode cX6_answersTo 191 = .ok (.iload_n 3, 1) := by decide +kernel
theorem dX6_answersTo_192 : decode cX6_answersTo 192 = .ok (.aaload, 1) := by decide +kernel
theorem dX6_answersTo_193 : decode cX6_answersTo 193 = .ok (.iload 4, 2) := by decide +kernel
theorem dX6_answersTo_195 : decode cX6_answersTo 195 = .ok (.iload 5, 2) := by decide +kernel
theorem dX6_answersTo_197 : decode cX6_answersTo 197 = .ok (.invokevirtual 222, 3) := by decide +kernel
theorem dX6_answersTo_200 : decode cX6_answersTo 200 = .ok (.ifCond .eq 19, 3) := by decide +kernel
theorem dX6_answersTo_203 : decode cX6_answersTo 203 = .ok (.aload_n 0, 1) := by decide +kernel
theorem dX6_answersTo_204 : decode cX6_answersTo 204 = .ok (.getfield 27, 3) := by decide +kernel
theorem dX6_answersTo_207 : decode cX6_answersTo 207 = .ok (.iload_n 3, 1) := by decide +kernel
theorem dX6_answersTo_208 : decode cX6_answersTo 208 = .ok (.aaload, 1) := by decide +kernel
theorem dX6_answersTo_209 : decode cX6_answersTo 209 = .ok (.invokevirtual 225, 3) := by decide +kernel
theorem dX6_answersTo_212 : decode cX6_answersTo 212 = .ok (.ifCond .eq 7, 3) := by decide +kernel
theorem dX6_answersTo_215 : decode cX6_answersTo 215 = .ok (.iconst 1, 1) := by decide +kernel
theorem dX6_answersTo_216 : decode cX6_answersTo 216 = .ok (.goto 4, 3) := by decide +kernel
theorem dX6_answersTo_219 : decode cX6_answersTo 219 = .ok (.iconst 0, 1) := by decide +kernel
theorem dX6_answersTo_220 : decode cX6_answersTo 220 = .ok (.istore 9, 2) := by decide +kernel
theorem dX6_answersTo_222 : decode cX6_answersTo 222 = .ok (.iload 9, 2) := by decide +kernel
theorem dX6_answersTo_224 : decode cX6_answersTo 224 = .ok (.ifCond .eq 17, 3) := by decide +kernel
theorem dX6_answersTo_227 : decode cX6_answersTo 227 = .ok (.aload_n 0, 1) := by decide +kernel
theorem dX6_answersTo_228 : decode cX6_answersTo 228 = .ok (.getfield 11, 3) := by decide +kernel
theorem dX6_answersTo_231 : decode cX6_answersTo 231 = .ok (.arraylength, 1) := by decide +kernel
theorem dX6_answersTo_232 : decode cX6_answersTo 232 = .ok (.aload_n 0, 1) := by decide +kernel
theorem dX6_answersTo_233 : decode cX6_answersTo 233 = .ok (.getfield 18, 3) := by decide +kernel
theorem dX6_answersTo_236 : decode cX6_answersTo 236 = .ok (.arraylength, 1) := by decide +kernel
theorem dX6_answersTo_237 : decode cX6_answersTo 237 = .ok (.imul, 1) := by decide +kernel
theorem dX6_answersTo_238 : decode cX6_answersTo 238 = .ok (.goto 4, 3) := by decide +kernel
theorem dX6_answersTo_241 : decode cX6_answersTo 241 = .ok (.iconst 0, 1) := by decide +kernel
theorem dX6_answersTo_242 : decode cX6_answersTo 242 = .ok (.ireturn, 1) := by decide +kernel
theorem dX6_answersTo_243 : decode cX6_answersTo 243 = .ok (.aload_n 0, 1) := by decide +kernel
theorem dX6_answersTo_244 : decode cX6_answersTo 244 = .ok (.getfield 27, 3) := by decide +kernel
theorem dX6_answersTo_247 : decode cX6_answersTo 247 = .ok (.iload_n 3, 1) := by decide +kernel
theorem dX6_answersTo_248 : decode cX6_answersTo 248 = .ok (.aaload, 1) := by decide +kernel
theorem dX6_answersTo_249 : decode cX6_answersTo 249 = .ok (.getfield 85, 3) := by decide +kernel
theorem dX6_answersTo_252 : decode cX6_answersTo 252 = .ok (.ifCond .eq 7, 3) := by decide +kernel
theorem dX6_answersTo_255 : decode cX6_answersTo 255 = .ok (.iconst 1, 1) := by decide +kernel
theorem dX6_answersTo_256 : decode cX6_answersTo 256 = .ok (.goto 4, 3) := by decide +kernel
theorem dX6_answersTo_259 : decode cX6_answersTo 259 = .ok (.iconst 0, 1) := by decide +kernel
theorem dX6_answersTo_260 : decode cX6_answersTo 260 = .ok (.ireturn, 1) := by decide +kernel
theorem dX6_answersTo_261 : decode cX6_answersTo 261 = .ok (.iconst 0, 1) := by decide +kernel
theorem dX6_answersTo_262 : decode cX6_answersTo 262 = .ok (.ireturn, 1) := by decide +kernel
theorem dX6_take_0 : decode cX6_take 0 = .ok (.iload_n 2, 1) := by decide +kernel
theorem dX6_take_1 : decode cX6_take 1 = .ok (.tableswitch 160 0 5 #[39, 48, 62, 79, 93, 135], 39) := by decide +kernel
theorem dX6_take_40 : decode cX6_take 40 = .ok (.aload_n 0, 1) := by decide +kernel
theorem dX6_take_41 : decode cX6_take 41 = .ok (.iload_n 1, 1) := by decide +kernel
theorem dX6_take_42 : decode cX6_take 42 = .ok (.iload_n 3, 1) := by decide +kernel
theorem dX6_take_43 : decode cX6_take 43 = .ok (.invokevirtual 229, 3) := by decide +kernel
theorem dX6_take_46 : decode cX6_take 46 = .ok (.goto 115, 3) := by decide +kernel
theorem dX6_take_49 : decode cX6_take 49 = .ok (.aload_n 0, 1) := by decide +kernel
theorem dX6_take_50 : decode cX6_take 50 = .ok (.iload_n 1, 1) := by decide +kernel
theorem dX6_take_51 : decode cX6_take 51 = .ok (.aload_n 0, 1) := by decide +kernel
theorem dX6_take_52 : decode cX6_take 52 = .ok (.getfield 27, 3) := by decide +kernel
theorem dX6_take_55 : decode cX6_take 55 = .ok (.iload_n 3, 1) := by decide +kernel
theorem dX6_take_56 : decode cX6_take 56 = .ok (.aaload, 1) := by decide +kernel
theorem dX6_take_57 : decode cX6_take 57 = .ok (.invokevirtual 232, 3) := by decide +kernel
theorem dX6_take_60 : decode cX6_take 60 = .ok (.goto 101, 3) := by decide +kernel
theorem dX6_take_63 : decode cX6_take 63 = .ok (.aload_n 0, 1) := by decide +kernel
theorem dX6_take_64 : decode cX6_take 64 = .ok (.iload_n 3, 1) := by decide +kernel
theorem dX6_take_65 : decode cX6_take 65 = .ok (.aload_n 0, 1) := by decide +kernel
theorem dX6_take_66 : decode cX6_take 66 = .ok (.getfield 37, 3) := by decide +kernel
theorem dX6_take_69 : decode cX6_take 69 = .ok (.iload_n 1, 1) := by decide +kernel
theorem dX6_take_70 : decode cX6_take 70 = .ok (.iconst 4, 1) := by decide +kernel
theorem dX6_take_71 : decode cX6_take 71 = .ok (.invokevirtual 128, 3) := by decide +kernel
theorem dX6_take_74 : decode cX6_take 74 = .ok (.invokevirtual 236, 3) := by decide +kernel
theorem dX6_take_77 : decode cX6_take 77 = .ok (.goto 84, 3) := by decide +kernel
theorem dX6_take_80 : decode cX6_take 80 = .ok (.aload_n 0, 1) := by decide +kernel
theorem dX6_take_81 : decode cX6_take 81 = .ok (.iload_n 1, 1) := by decide +kernel
theorem dX6_take_82 : decode cX6_take 82 = .ok (.aload_n 0, 1) := by decide +kernel
theorem dX6_take_83 : decode cX6_take 83 = .ok (.getfield 27, 3) := by decide +kernel
theorem dX6_take_86 : decode cX6_take 86 = .ok (.iload_n 3, 1) := by decide +kernel
theorem dX6_take_87 : decode cX6_take 87 = .ok (.aaload, 1) := by decide +kernel
theorem dX6_take_88 : decode cX6_take 88 = .ok (.invokevirtual 239, 3) := by decide +kernel
theorem dX6_take_91 : decode cX6_take 91 = .ok (.goto 70, 3) := by decide +kernel
theorem dX6_take_94 : decode cX6_take 94 = .ok (.aload_n 0, 1) := by decide +kernel
theorem dX6_take_95 : decode cX6_take 95 = .ok (.getfield 37, 3) := by decide +kernel
theorem dX6_take_98 : decode cX6_take 98 = .ok (.iload_n 1, 1) := by decide +kernel
theorem dX6_take_99 : decode cX6_take 99 = .ok (.iconst 5, 1) := by decide +kernel
theorem dX6_take_100 : decode cX6_take 100 = .ok (.invokevirtual 128, 3) := by decide +kernel
theorem dX6_take_103 : decode cX6_take 103 = .ok (.iconst 1, 1) := by decide +kernel
theorem dX6_take_104 : decode cX6_take 104 = .ok (.if_icmp .ne 7, 3) := by decide +kernel
theorem dX6_take_107 : decode cX6_take 107 = .ok (.iconst 1, 1) := by decide +kernel
theorem dX6_take_108 : decode cX6_take 108 = .ok (.goto 4, 3) := by decide +kernel
theorem dX6_take_111 : decode cX6_take 111 = .ok (.iconst 0, 1) := by decide +kernel
theorem dX6_take_112 : decode cX6_take 112 = .ok (.istore 4, 2) := by decide +kernel
theorem dX6_take_114 : decode cX6_take 114 = .ok (.aload_n 0, 1) := by decide +kernel
theorem dX6_take_115 : decode cX6_take 115 = .ok (.getfield 11, 3) := by decide +kernel
theorem dX6_take_118 : decode cX6_take 118 = .ok (.iload_n 3, 1) := by decide +kernel
theorem dX6_take_119 : decode cX6_take 119 = .ok (.aaload, 1) := by decide +kernel
theorem dX6_take_120 : decode cX6_take 120 = .ok (.iload 4, 2) := by decide +kernel
theorem dX6_take_122 : decode cX6_take 122 = .ok (.ifCond .eq 7, 3) := by decide +kernel
theorem dX6_take_125 : decode cX6_take 125 = .ok (.iconst 3, 1) := by decide +kernel
theorem dX6_take_126 : decode cX6_take 126 = .ok (.goto 4, 3) := by decide +kernel
theorem dX6_take_129 : decode cX6_take 129 = .ok (.iconst 4, 1) := by decide +kernel
theorem dX6_take_130 : decode cX6_take 130 = .ok (.putfield 55, 3) := by decide +kernel
theorem dX6_take_133 : decode cX6_take 133 = .ok (.goto 28, 3) := by decide +kernel
theorem dX6_take_136 : decode cX6_take 136 = .ok (.aload_n 0, 1) := by decide +kernel
theorem dX6_take_137 : decode cX6_take 137 = .ok (.aload_n 0, 1) := by decide +kernel
theorem dX6_take_138 : decode cX6_take 138 = .ok (.getfield 37, 3) := by decide +kernel
theorem dX6_take_141 : decode cX6_take 141 = .ok (.iload_n 1, 1) := by decide +kernel
theorem dX6_take_142 : decode cX6_take 142 = .ok (.iconst 2, 1) := by decide +kernel
theorem dX6_take_143 : decode cX6_take 143 = .ok (.invokevirtual 128, 3) := by decide +kernel
theorem dX6_take_146 : decode cX6_take 146 = .ok (.aload_n 0, 1) := by decide +kernel
theorem dX6_take_147 : decode cX6_take 147 = .ok (.getfield 27, 3) := by decide +kernel
theorem dX6_take_150 : decode cX6_take 150 = .ok (.iload_n 3, 1) := by decide +kernel
theorem dX6_take_151 : decode cX6_take 151 = .ok (.aaload, 1) := by decide +kernel
theorem dX6_take_152 : decode cX6_take 152 = .ok (.getfield 85, 3) := by decide +kernel
theorem dX6_take_155 : decode cX6_take 155 = .ok (.invokevirtual 242, 3) := by decide +kernel
theorem dX6_take_158 : decode cX6_take 158 = .ok (.goto 3, 3) := by decide +kernel
theorem dX6_take_161 : decode cX6_take 161 = .ok (.return_, 1) := by decide +kernel
theorem dX6_takeVote_0 : decode cX6_takeVote 0 = .ok (.aload_n 0, 1) := by decide +kernel
theorem dX6_takeVote_1 : decode cX6_takeVote 1 = .ok (.getfield 37, 3) := by decide +kernel
theorem dX6_takeVote_4 : decode cX6_takeVote 4 = .ok (.iload_n 1, 1) := by decide +kernel
theorem dX6_takeVote_5 : decode cX6_takeVote 5 = .ok (.iconst 3, 1) := by decide +kernel
theorem dX6_takeVote_6 : decode cX6_takeVote 6 = .ok (.invokevirtual 128, 3) := by decide +kernel
theorem dX6_takeVote_9 : decode cX6_takeVote 9 = .ok (.istore_n 3, 1) := by decide +kernel
theorem dX6_takeVote_10 : decode cX6_takeVote 10 = .ok (.aload_n 0, 1) := by decide +kernel
theorem dX6_takeVote_11 : decode cX6_takeVote 11 = .ok (.getfield 37, 3) := by decide +kernel
theorem dX6_takeVote_14 : decode cX6_takeVote 14 = .ok (.iload_n 1, 1) := by decide +kernel
theorem dX6_takeVote_15 : decode cX6_takeVote 15 = .ok (.iconst 4, 1) := by decide +kernel
theorem dX6_takeVote_16 : decode cX6_takeVote 16 = .ok (.invokevirtual 128, 3) := by decide +kernel
theorem dX6_takeVote_19 : decode cX6_takeVote 19 = .ok (.istore 4, 2) := by decide +kernel
theorem dX6_takeVote_21 : decode cX6_takeVote 21 = .ok (.aload_n 0, 1) := by decide +kernel
theorem dX6_takeVote_22 : decode cX6_takeVote 22 = .ok (.getfield 37, 3) := by decide +kernel
theorem dX6_takeVote_25 : decode cX6_takeVote 25 = .ok (.iload_n 1, 1) := by decide +kernel
theorem dX6_takeVote_26 : decode cX6_takeVote 26 = .ok (.iconst 5, 1) := by decide +kernel
theorem dX6_takeVote_27 : decode cX6_takeVote 27 = .ok (.invokevirtual 128, 3) := by decide +kernel
theorem dX6_takeVote_30 : decode cX6_takeVote 30 = .ok (.istore 5, 2) := by decide +kernel
theorem dX6_takeVote_32 : decode cX6_takeVote 32 = .ok (.iload 4, 2) := by decide +kernel
theorem dX6_takeVote_34 : decode cX6_takeVote 34 = .ok (.aload_n 0, 1) := by decide +kernel
theorem dX6_takeVote_35 : decode cX6_takeVote 35 = .ok (.getfield 18, 3) := by decide +kernel
theorem dX6_takeVote_38 : decode cX6_takeVote 38 = .ok (.iload_n 2, 1) := by decide +kernel
theorem dX6_takeVote_39 : decode cX6_takeVote 39 = .ok (.aaload, 1) := by decide +kernel
theorem dX6_takeVote_40 : decode cX6_takeVote 40 = .ok (.getfield 140, 3) := by decide +kernel
theorem dX6_takeVote_43 : decode cX6_takeVote 43 = .ok (.if_icmp .ge 4, 3) := by decide +kernel
theorem dX6_takeVote_46 : decode cX6_takeVote 46 = .ok (.return_, 1) := by decide +kernel
theorem dX6_takeVote_47 : decode cX6_takeVote 47 = .ok (.aload_n 0, 1) := by decide +kernel
theorem dX6_takeVote_48 : decode cX6_takeVote 48 = .ok (.getfield 18, 3) := by decide +kernel
theorem dX6_takeVote_51 : decode cX6_takeVote 51 = .ok (.iload_n 2, 1) := by decide +kernel
theorem dX6_takeVote_52 : decode cX6_takeVote 52 = .ok (.aaload, 1) := by decide +kernel
theorem dX6_takeVote_53 : decode cX6_takeVote 53 = .ok (.iload_n 3, 1) := by decide +kernel
theorem dX6_takeVote_54 : decode cX6_takeVote 54 = .ok (.iload 4, 2) := by decide +kernel
theorem dX6_takeVote_56 : decode cX6_takeVote 56 = .ok (.iload 5, 2) := by decide +kernel
theorem dX6_takeVote_58 : decode cX6_takeVote 58 = .ok (.invokevirtual 245, 3) := by decide +kernel
theorem dX6_takeVote_61 : decode cX6_takeVote 61 = .ok (.aload_n 0, 1) := by decide +kernel
theorem dX6_takeVote_62 : decode cX6_takeVote 62 = .ok (.getfield 44, 3) := by decide +kernel
theorem dX6_takeVote_65 : decode cX6_takeVote 65 = .ok (.iload_n 3, 1) := by decide +kernel
theorem dX6_takeVote_66 : decode cX6_takeVote 66 = .ok (.iload 4, 2) := by decide +kernel
theorem dX6_takeVote_68 : decode cX6_takeVote 68 = .ok (.iload 5, 2) := by decide +kernel
theorem dX6_takeVote_70 : decode cX6_takeVote 70 = .ok (.iload_n 2, 1) := by decide +kernel
theorem dX6_takeVote_71 : decode cX6_takeVote 71 = .ok (.invokevirtual 248, 3) := by decide +kernel
theorem dX6_takeVote_74 : decode cX6_takeVote 74 = .ok (.iconst 0, 1) := by decide +kernel
theorem dX6_takeVote_75 : decode cX6_takeVote 75 = .ok (.istore 6, 2) := by decide +kernel
theorem dX6_takeVote_77 : decode cX6_takeVote 77 = .ok (.iload 6, 2) := by decide +kernel
theorem dX6_takeVote_79 : decode cX6_takeVote 79 = .ok (.iconst 3, 1) := by decide +kernel
theorem dX6_takeVote_80 : decode cX6_takeVote 80 = .ok (.if_icmp .ge 25, 3) := by decide +kernel
theorem dX6_takeVote_83 : decode cX6_takeVote 83 = .ok (.aload_n 0, 1) := by decide +kernel
theorem dX6_takeVote_84 : decode cX6_takeVote 84 = .ok (.getfield 37, 3) := by decide +kernel
theorem dX6_takeVote_87 : decode cX6_takeVote 87 = .ok (.iconst 1, 1) := by decide +kernel
theorem dX6_takeVote_88 : decode cX6_takeVote 88 = .ok (.iload 6, 2) := by decide +kernel
theorem dX6_takeVote_90 : decode cX6_takeVote 90 = .ok (.iload_n 2, 1) := by decide +kernel
theorem dX6_takeVote_91 : decode cX6_takeVote 91 = .ok (.iload_n 3, 1) := by decide +kernel
theorem dX6_takeVote_92 : decode cX6_takeVote 92 = .ok (.iload 4, 2) := by decide +kernel
theorem dX6_takeVote_94 : decode cX6_takeVote 94 = .ok (.iload 5, 2) := by decide +kernel
theorem dX6_takeVote_96 : decode cX6_takeVote 96 = .ok (.invokevirtual 74, 3) := by decide +kernel
theorem dX6_takeVote_99 : decode cX6_takeVote 99 = .ok (.iinc 6 1, 3) := by decide +kernel
theorem dX6_takeVote_102 : decode cX6_takeVote 102 = .ok (.goto (-25), 3) := by decide +kernel
theorem dX6_takeVote_105 : decode cX6_takeVote 105 = .ok (.return_, 1) := by decide +kernel
theorem dX6_takeAsk_0 : decode cX6_takeAsk 0 = .ok (.aload_n 0, 1) := by decide +kernel
theorem dX6_takeAsk_1 : decode cX6_takeAsk 1 = .ok (.getfield 18, 3) := by decide +kernel
theorem dX6_takeAsk_4 : decode cX6_takeAsk 4 = .ok (.iload_n 1, 1) := by decide +kernel
theorem dX6_takeAsk_5 : decode cX6_takeAsk 5 = .ok (.aaload, 1) := by decide +kernel
theorem dX6_takeAsk_6 : decode cX6_takeAsk 6 = .ok (.astore_n 3, 1) := by decide +kernel
theorem dX6_takeAsk_7 : decode cX6_takeAsk 7 = .ok (.iload_n 2, 1) := by decide +kernel
theorem dX6_takeAsk_8 : decode cX6_takeAsk 8 = .ok (.aload_n 3, 1) := by decide +kernel
theorem dX6_takeAsk_9 : decode cX6_takeAsk 9 = .ok (.getfield 140, 3) := by decide +kernel
theorem dX6_takeAsk_12 : decode cX6_takeAsk 12 = .ok (.if_icmp .gt 4, 3) := by decide +kernel
theorem dX6_takeAsk_15 : decode cX6_takeAsk 15 = .ok (.return_, 1) := by decide +kernel
theorem dX6_takeAsk_16 : decode cX6_takeAsk 16 = .ok (.aload_n 3, 1) := by decide +kernel
theorem dX6_takeAsk_17 : decode cX6_takeAsk 17 = .ok (.iload_n 2, 1) := by decide +kernel
theorem dX6_takeAsk_18 : decode cX6_takeAsk 18 = .ok (.putfield 140, 3) := by decide +kernel
theorem dX6_takeAsk_21 : decode cX6_takeAsk 21 = .ok (.aload_n 0, 1) := by decide +kernel
theorem dX6_takeAsk_22 : decode cX6_takeAsk 22 = .ok (.getfield 37, 3) := by decide +kernel
theorem dX6_takeAsk_25 : decode cX6_takeAsk 25 = .ok (.iconst 3, 1) := by decide +kernel
theorem dX6_takeAsk_26 : decode cX6_takeAsk 26 = .ok (.iload_n 2, 1) := by decide +kernel
theorem dX6_takeAsk_27 : decode cX6_takeAsk 27 = .ok (.invokestatic 252, 3) := by decide +kernel
theorem dX6_takeAsk_30 : decode cX6_takeAsk 30 = .ok (.iload_n 1, 1) := by decide +kernel
theorem dX6_takeAsk_31 : decode cX6_takeAsk 31 = .ok (.iconst (-1), 1) := by decide +kernel
theorem dX6_takeAsk_32 : decode cX6_takeAsk 32 = .ok (.iload_n 2, 1) := by decide +kernel
theorem dX6_takeAsk_33 : decode cX6_takeAsk 33 = .ok (.iconst (-1), 1) := by decide +kernel
theorem dX6_takeAsk_34 : decode cX6_takeAsk 34 = .ok (.invokevirtual 74, 3) := by decide +kernel
theorem dX6_takeAsk_37 : decode cX6_takeAsk 37 = .ok (.aload_n 0, 1) := by decide +kernel
theorem dX6_takeAsk_38 : decode cX6_takeAsk 38 = .ok (.getfield 37, 3) := by decide +kernel
theorem dX6_takeAsk_41 : decode cX6_takeAsk 41 = .ok (.aload_n 3, 1) := by decide +kernel
theorem dX6_takeAsk_42 : decode cX6_takeAsk 42 = .ok (.getfield 144, 3) := by decide +kernel
theorem dX6_takeAsk_45 : decode cX6_takeAsk 45 = .ok (.invokevirtual 255, 3) := by decide +kernel
theorem dX6_takeAsk_48 : decode cX6_takeAsk 48 = .ok (.return_, 1) := by decide +kernel
theorem dX6_takeVoted_0 : decode cX6_takeVoted 0 = .ok (.aload_n 0, 1) := by decide +kernel
theorem dX6_takeVoted_1 : decode cX6_takeVoted 1 = .ok (.getfield 37, 3) := by decide +kernel
theorem dX6_takeVoted_4 : decode cX6_takeVoted 4 = .ok (.iload_n 1, 1) := by decide +kernel
theorem dX6_takeVoted_5 : decode cX6_takeVoted 5 = .ok (.iconst 4, 1) := by decide +kernel
theorem dX6_takeVoted_6 : decode cX6_takeVoted 6 = .ok (.invokevirtual 128, 3) := by decide +kernel
theorem dX6_takeVoted_9 : decode cX6_takeVoted 9 = .ok (.istore_n 3, 1) := by decide +kernel
theorem dX6_takeVoted_10 : decode cX6_takeVoted 10 = .ok (.iload_n 3, 1) := by decide +kernel
theorem dX6_takeVoted_11 : decode cX6_takeVoted 11 = .ok (.aload_n 0, 1) := by decide +kernel
theorem dX6_takeVoted_12 : decode cX6_takeVoted 12 = .ok (.getfield 37, 3) := by decide +kernel
theorem dX6_takeVoted_15 : decode cX6_takeVoted 15 = .ok (.iload_n 1, 1) := by decide +kernel
theorem dX6_takeVoted_16 : decode cX6_takeVoted 16 = .ok (.iconst 5, 1) := by decide +kernel
theorem dX6_takeVoted_17 : decode cX6_takeVoted 17 = .ok (.invokevirtual 128, 3) := by decide +kernel
theorem dX6_takeVoted_20 : decode cX6_takeVoted 20 = .ok (.invokestatic 213, 3) := by decide +kernel
theorem dX6_takeVoted_23 : decode cX6_takeVoted 23 = .ok (.istore 4, 2) := by decide +kernel
theorem dX6_takeVoted_25 : decode cX6_takeVoted 25 = .ok (.aload_n 2, 1) := by decide +kernel
theorem dX6_takeVoted_26 : decode cX6_takeVoted 26 = .ok (.aload_n 2, 1) := by decide +kernel
theorem dX6_takeVoted_27 : decode cX6_takeVoted 27 = .ok (.getfield 78, 3) := by decide +kernel
theorem dX6_takeVoted_30 : decode cX6_takeVoted 30 = .ok (.iload_n 3, 1) := by decide +kernel
theorem dX6_takeVoted_31 : decode cX6_takeVoted 31 = .ok (.invokestatic 259, 3) := by decide +kernel
theorem dX6_takeVoted_34 : decode cX6_takeVoted 34 = .ok (.putfield 78, 3) := by decide +kernel
theorem dX6_takeVoted_37 : decode cX6_takeVoted 37 = .ok (.aload_n 2, 1) := by decide +kernel
theorem dX6_takeVoted_38 : decode cX6_takeVoted 38 = .ok (.getfield 85, 3) := by decide +kernel
theorem dX6_takeVoted_41 : decode cX6_takeVoted 41 = .ok (.istore 5, 2) := by decide +kernel
theorem dX6_takeVoted_43 : decode cX6_takeVoted 43 = .ok (.aload_n 2, 1) := by decide +kernel
theorem dX6_takeVoted_44 : decode cX6_takeVoted 44 = .ok (.aload_n 0, 1) := by decide +kernel
theorem dX6_takeVoted_45 : decode cX6_takeVoted 45 = .ok (.getfield 37, 3) := by decide +kernel
theorem dX6_takeVoted_48 : decode cX6_takeVoted 48 = .ok (.iload_n 1, 1) := by decide +kernel
theorem dX6_takeVoted_49 : decode cX6_takeVoted 49 = .ok (.iconst 3, 1) := by decide +kernel
theorem dX6_takeVoted_50 : decode cX6_takeVoted 50 = .ok (.invokevirtual 128, 3) := by decide +kernel
theorem dX6_takeVoted_53 : decode cX6_takeVoted 53 = .ok (.aload_n 0, 1) := by decide +kernel
theorem dX6_takeVoted_54 : decode cX6_takeVoted 54 = .ok (.getfield 37, 3) := by decide +kernel
theorem dX6_takeVoted_57 : decode cX6_takeVoted 57 = .ok (.iload_n 1, 1) := by decide +kernel
theorem dX6_takeVoted_58 : decode cX6_takeVoted 58 = .ok (.iconst 2, 1) := by decide +kernel
theorem dX6_takeVoted_59 : decode cX6_takeVoted 59 = .ok (.invokevirtual 128, 3) := by decide +kernel
theorem dX6_takeVoted_62 : decode cX6_takeVoted 62 = .ok (.iload 4, 2) := by decide +kernel
theorem dX6_takeVoted_64 : decode cX6_takeVoted 64 = .ok (.invokevirtual 262, 3) := by decide +kernel
theorem dX6_takeVoted_67 : decode cX6_takeVoted 67 = .ok (.aload_n 2, 1) := by decide +kernel
theorem dX6_takeVoted_68 : decode cX6_takeVoted 68 = .ok (.getfield 85, 3) := by decide +kernel
theorem dX6_takeVoted_71 : decode cX6_takeVoted 71 = .ok (.iload 5, 2) := by decide +kernel
theorem dX6_takeVoted_73 : decode cX6_takeVoted 73 = .ok (.if_icmp .eq 11, 3) := by decide +kernel
theorem dX6_takeVoted_76 : decode cX6_takeVoted 76 = .ok (.aload_n 0, 1) := by decide +kernel
theorem dX6_takeVoted_77 : decode cX6_takeVoted 77 = .ok (.aload_n 2, 1) := by decide +kernel
theorem dX6_takeVoted_78 : decode cX6_takeVoted 78 = .ok (.getfield 85, 3) := by decide +kernel
theorem dX6_takeVoted_81 : decode cX6_takeVoted 81 = .ok (.invokevirtual 95, 3) := by decide +kernel
theorem dX6_takeVoted_84 : decode cX6_takeVoted 84 = .ok (.return_, 1) := by decide +kernel
theorem dX6_takeTold_0 : decode cX6_takeTold 0 = .ok (.aload_n 0, 1) := by decide +kernel
theorem dX6_takeTold_1 : decode cX6_takeTold 1 = .ok (.getfield 37, 3) := by decide +kernel
theorem dX6_takeTold_4 : decode cX6_takeTold 4 = .ok (.iload_n 1, 1) := by decide +kernel
theorem dX6_takeTold_5 : decode cX6_takeTold 5 = .ok (.iconst 4, 1) := by decide +kernel
theorem dX6_takeTold_6 : decode cX6_takeTold 6 = .ok (.invokevirtual 128, 3) := by decide +kernel
theorem dX6_takeTold_9 : decode cX6_takeTold 9 = .ok (.istore_n 3, 1) := by decide +kernel
theorem dX6_takeTold_10 : decode cX6_takeTold 10 = .ok (.aload_n 0, 1) := by decide +kernel
theorem dX6_takeTold_11 : decode cX6_takeTold 11 = .ok (.getfield 37, 3) := by decide +kernel
theorem dX6_takeTold_14 : decode cX6_takeTold 14 = .ok (.iload_n 1, 1) := by decide +kernel
theorem dX6_takeTold_15 : decode cX6_takeTold 15 = .ok (.iconst 2, 1) := by decide +kernel
theorem dX6_takeTold_16 : decode cX6_takeTold 16 = .ok (.invokevirtual 128, 3) := by decide +kernel
theorem dX6_takeTold_19 : decode cX6_takeTold 19 = .ok (.istore 4, 2) := by decide +kernel
theorem dX6_takeTold_21 : decode cX6_takeTold 21 = .ok (.aload_n 2, 1) := by decide +kernel
theorem dX6_takeTold_22 : decode cX6_takeTold 22 = .ok (.aload_n 2, 1) := by decide +kernel
theorem dX6_takeTold_23 : decode cX6_takeTold 23 = .ok (.getfield 78, 3) := by decide +kernel
theorem dX6_takeTold_26 : decode cX6_takeTold 26 = .ok (.iload_n 3, 1) := by decide +kernel
theorem dX6_takeTold_27 : decode cX6_takeTold 27 = .ok (.invokestatic 259, 3) := by decide +kernel
theorem dX6_takeTold_30 : decode cX6_takeTold 30 = .ok (.putfield 78, 3) := by decide +kernel
theorem dX6_takeTold_33 : decode cX6_takeTold 33 = .ok (.aload_n 2, 1) := by decide +kernel
theorem dX6_takeTold_34 : decode cX6_takeTold 34 = .ok (.iload_n 3, 1) := by decide +kernel
theorem dX6_takeTold_35 : decode cX6_takeTold 35 = .ok (.iload 4, 2) := by decide +kernel
theorem dX6_takeTold_37 : decode cX6_takeTold 37 = .ok (.invokevirtual 222, 3) := by decide +kernel
theorem dX6_takeTold_40 : decode cX6_takeTold 40 = .ok (.ifCond .ne 4, 3) := by decide +kernel
theorem dX6_takeTold_43 : decode cX6_takeTold 43 = .ok (.return_, 1) := by decide +kernel
theorem dX6_takeTold_44 : decode cX6_takeTold 44 = .ok (.aload_n 2, 1) := by decide +kernel
theorem dX6_takeTold_45 : decode cX6_takeTold 45 = .ok (.invokevirtual 225, 3) := by decide +kernel
theorem dX6_takeTold_48 : decode cX6_takeTold 48 = .ok (.istore 5, 2) := by decide +kernel
theorem dX6_takeTold_50 : decode cX6_takeTold 50 = .ok (.aload_n 2, 1) := by decide +kernel
theorem dX6_takeTold_51 : decode cX6_takeTold 51 = .ok (.dup, 1) := by decide +kernel
theorem dX6_takeTold_52 : decode cX6_takeTold 52 = .ok (.getfield 154, 3) := by decide +kernel
theorem dX6_takeTold_55 : decode cX6_takeTold 55 = .ok (.iconst 1, 1) := by decide +kernel
theorem dX6_takeTold_56 : decode cX6_takeTold 56 = .ok (.iload 4, 2) := by decide +kernel
theorem dX6_takeTold_58 : decode cX6_takeTold 58 = .ok (.ishl, 1) := by decide +kernel
theorem dX6_takeTold_59 : decode cX6_takeTold 59 = .ok (.ior, 1) := by decide +kernel
theorem dX6_takeTold_60 : decode cX6_takeTold 60 = .ok (.putfield 154, 3) := by decide +kernel
theorem dX6_takeTold_63 : decode cX6_takeTold 63 = .ok (.iconst 0, 1) := by decide +kernel
theorem dX6_takeTold_64 : decode cX6_takeTold 64 = .ok (.istore 6, 2) := by decide +kernel
theorem dX6_takeTold_66 : decode cX6_takeTold 66 = .ok (.iload 6, 2) := by decide +kernel
theorem dX6_takeTold_68 : decode cX6_takeTold 68 = .ok (.aload_n 0, 1) := by decide +kernel
theorem dX6_takeTold_69 : decode cX6_takeTold 69 = .ok (.getfield 11, 3) := by decide +kernel
theorem dX6_takeTold_72 : decode cX6_takeTold 72 = .ok (.arraylength, 1) := by decide +kernel
theorem dX6_takeTold_73 : decode cX6_takeTold 73 = .ok (.if_icmp .ge 36, 3) := by decide +kernel
theorem dX6_takeTold_76 : decode cX6_takeTold 76 = .ok (.aload_n 2, 1) := by decide +kernel
theorem dX6_takeTold_77 : decode cX6_takeTold 77 = .ok (.getfield 265, 3) := by decide +kernel
theorem dX6_takeTold_80 : decode cX6_takeTold 80 = .ok (.iload 6, 2) := by decide +kernel
theorem dX6_takeTold_82 : decode cX6_takeTold 82 = .ok (.aload_n 2, 1) := by decide +kernel
theorem dX6_takeTold_83 : decode cX6_takeTold 83 = .ok (.getfield 265, 3) := by decide +kernel
theorem dX6_takeTold_86 : decode cX6_takeTold 86 = .ok (.iload 6, 2) := by decide +kernel
theorem dX6_takeTold_88 : decode cX6_takeTold 88 = .ok (.iaload, 1) := by decide +kernel
theorem dX6_takeTold_89 : decode cX6_takeTold 89 = .ok (.aload_n 0, 1) := by decide +kernel
theorem dX6_takeTold_90 : decode cX6_takeTold 90 = .ok (.getfield 37, 3) := by decide +kernel
theorem dX6_takeTold_93 : decode cX6_takeTold 93 = .ok (.iload_n 1, 1) := by decide +kernel
theorem dX6_takeTold_94 : decode cX6_takeTold 94 = .ok (.iload 6, 2) := by decide +kernel
theorem dX6_takeTold_96 : decode cX6_takeTold 96 = .ok (.invokevirtual 131, 3) := by decide +kernel
theorem dX6_takeTold_99 : decode cX6_takeTold 99 = .ok (.invokestatic 259, 3) := by decide +kernel
theorem dX6_takeTold_102 : decode cX6_takeTold 102 = .ok (.iastore, 1) := by decide +kernel
theorem dX6_takeTold_103 : decode cX6_takeTold 103 = .ok (.iinc 6 1, 3) := by decide +kernel
theorem dX6_takeTold_106 : decode cX6_takeTold 106 = .ok (.goto (-40), 3) := by decide +kernel
theorem dX6_takeTold_109 : decode cX6_takeTold 109 = .ok (.iload 5, 2) := by decide +kernel
theorem dX6_takeTold_111 : decode cX6_takeTold 111 = .ok (.ifCond .eq 8, 3) := by decide +kernel
theorem dX6_takeTold_114 : decode cX6_takeTold 114 = .ok (.aload_n 0, 1) := by decide +kernel
theorem dX6_takeTold_115 : decode cX6_takeTold 115 = .ok (.aload_n 2, 1) := by decide +kernel
theorem dX6_takeTold_116 : decode cX6_takeTold 116 = .ok (.invokevirtual 268, 3) := by decide +kernel
theorem dX6_takeTold_119 : decode cX6_takeTold 119 = .ok (.return_, 1) := by decide +kernel
theorem dX6_startVoting_0 : decode cX6_startVoting 0 = .ok (.aload_n 1, 1) := by decide +kernel
theorem dX6_startVoting_1 : decode cX6_startVoting 1 = .ok (.iconst 2, 1) := by decide +kernel
theorem dX6_startVoting_2 : decode cX6_startVoting 2 = .ok (.putfield 151, 3) := by decide +kernel
theorem dX6_startVoting_5 : decode cX6_startVoting 5 = .ok (.iconst 0, 1) := by decide +kernel
theorem dX6_startVoting_6 : decode cX6_startVoting 6 = .ok (.istore_n 2, 1) := by decide +kernel
theorem dX6_startVoting_7 : decode cX6_startVoting 7 = .ok (.iload_n 2, 1) := by decide +kernel
theorem dX6_startVoting_8 : decode cX6_startVoting 8 = .ok (.aload_n 0, 1) := by decide +kernel
theorem dX6_startVoting_9 : decode cX6_startVoting 9 = .ok (.getfield 11, 3) := by decide +kernel
theorem dX6_startVoting_12 : decode cX6_startVoting 12 = .ok (.arraylength, 1) := by decide +kernel
theorem dX6_startVoting_13 : decode cX6_startVoting 13 = .ok (.if_icmp .ge 37, 3) := by decide +kernel
theorem dX6_startVoting_16 : decode cX6_startVoting 16 = .ok (.aload_n 1, 1) := by decide +kernel
theorem dX6_startVoting_17 : decode cX6_startVoting 17 = .ok (.getfield 265, 3) := by decide +kernel
theorem dX6_startVoting_20 : decode cX6_startVoting 20 = .ok (.iload_n 2, 1) := by decide +kernel
theorem dX6_startVoting_21 : decode cX6_startVoting 21 = .ok (.iaload, 1) := by decide +kernel
theorem dX6_startVoting_22 : decode cX6_startVoting 22 = .ok (.istore_n 3, 1) := by decide +kernel
theorem dX6_startVoting_23 : decode cX6_startVoting 23 = .ok (.aload_n 0, 1) := by decide +kernel
theorem dX6_startVoting_24 : decode cX6_startVoting 24 = .ok (.iload_n 2, 1) := by decide +kernel
theorem dX6_startVoting_25 : decode cX6_startVoting 25 = .ok (.aload_n 1, 1) := by decide +kernel
theorem dX6_startVoting_26 : decode cX6_startVoting 26 = .ok (.getfield 148, 3) := by decide +kernel
theorem dX6_startVoting_29 : decode cX6_startVoting 29 = .ok (.iload_n 3, 1) := by decide +kernel
theorem dX6_startVoting_30 : decode cX6_startVoting 30 = .ok (.ifCond .ne 7, 3) := by decide +kernel
theorem dX6_startVoting_33 : decode cX6_startVoting 33 = .ok (.iconst 2, 1) := by decide +kernel
theorem dX6_startVoting_34 : decode cX6_startVoting 34 = .ok (.goto 7, 3) := by decide +kernel
theorem dX6_startVoting_37 : decode cX6_startVoting 37 = .ok (.iload_n 3, 1) := by decide +kernel
theorem dX6_startVoting_38 : decode cX6_startVoting 38 = .ok (.invokestatic 137, 3) := by decide +kernel
theorem dX6_startVoting_41 : decode cX6_startVoting 41 = .ok (.invokevirtual 70, 3) := by decide +kernel
theorem dX6_startVoting_44 : decode cX6_startVoting 44 = .ok (.iinc 2 1, 3) := by decide +kernel
theorem dX6_startVoting_47 : decode cX6_startVoting 47 = .ok (.goto (-40), 3) := by decide +kernel
theorem dX6_startVoting_50 : decode cX6_startVoting 50 = .ok (.return_, 1) := by decide +kernel
theorem dX6_takeQuestion_0 : decode cX6_takeQuestion 0 = .ok (.iload_n 2, 1) := by decide +kernel
theorem dX6_takeQuestion_1 : decode cX6_takeQuestion 1 = .ok (.ifCond .eq 16, 3) := by decide +kernel
theorem dX6_takeQuestion_4 : decode cX6_takeQuestion 4 = .ok (.aload_n 0, 1) := by decide +kernel
theorem dX6_takeQuestion_5 : decode cX6_takeQuestion 5 = .ok (.getfield 37, 3) := by decide +kernel
theorem dX6_takeQuestion_8 : decode cX6_takeQuestion 8 = .ok (.iconst 4, 1) := by decide +kernel
theorem dX6_takeQuestion_9 : decode cX6_takeQuestion 9 = .ok (.iload_n 1, 1) := by decide +kernel
theorem dX6_takeQuestion_10 : decode cX6_takeQuestion 10 = .ok (.iconst (-1), 1) := by decide +kernel
theorem dX6_takeQuestion_11 : decode cX6_takeQuestion 11 = .ok (.iconst (-1), 1) := by decide +kernel
theorem dX6_takeQuestion_12 : decode cX6_takeQuestion 12 = .ok (.iconst (-1), 1) := by decide +kernel
theorem dX6_takeQuestion_13 : decode cX6_takeQuestion 13 = .ok (.iload_n 2, 1) := by decide +kernel
theorem dX6_takeQuestion_14 : decode cX6_takeQuestion 14 = .ok (.invokevirtual 74, 3) := by decide +kernel
theorem dX6_takeQuestion_17 : decode cX6_takeQuestion 17 = .ok (.return_, 1) := by decide +kernel
theorem dJ6_bitCount_0f7a4_0 : decode cJ6_bitCount_0f7a4 0 = .ok (.iload_n 0, 1) := by decide +kernel
theorem dJ6_bitCount_0f7a4_1 : decode cJ6_bitCount_0f7a4 1 = .ok (.iload_n 0, 1) := by decide +kernel
theorem dJ6_bitCount_0f7a4_2 : decode cJ6_bitCount_0f7a4 2 = .ok (.iconst 1, 1) := by decide +kernel
theorem dJ6_bitCount_0f7a4_3 : decode cJ6_bitCount_0f7a4 3 = .ok (.iushr, 1) := by decide +kernel
theorem dJ6_bitCount_0f7a4_4 : decode cJ6_bitCount_0f7a4 4 = .ok (.ldc_w 265, 3) := by decide +kernel
theorem dJ6_bitCount_0f7a4_7 : decode cJ6_bitCount_0f7a4 7 = .ok (.iand, 1) := by decide +kernel
theorem dJ6_bitCount_0f7a4_8 : decode cJ6_bitCount_0f7a4 8 = .ok (.isub, 1) := by decide +kernel
theorem dJ6_bitCount_0f7a4_9 : decode cJ6_bitCount_0f7a4 9 = .ok (.istore_n 0, 1) := by decide +kernel
theorem dJ6_bitCount_0f7a4_10 : decode cJ6_bitCount_0f7a4 10 = .ok (.iload_n 0, 1) := by decide +kernel
theorem dJ6_bitCount_0f7a4_11 : decode cJ6_bitCount_0f7a4 11 = .ok (.ldc_w 266, 3) := by decide +kernel
theorem dJ6_bitCount_0f7a4_14 : decode cJ6_bitCount_0f7a4 14 = .ok (.iand, 1) := by decide +kernel
theorem dJ6_bitCount_0f7a4_15 : decode cJ6_bitCount_0f7a4 15 = .ok (.iload_n 0, 1) := by decide +kernel
theorem dJ6_bitCount_0f7a4_16 : decode cJ6_bitCount_0f7a4 16 = .ok (.iconst 2, 1) := by decide +kernel
theorem dJ6_bitCount_0f7a4_17 : decode cJ6_bitCount_0f7a4 17 = .ok (.iushr, 1) := by decide +kernel
theorem dJ6_bitCount_0f7a4_18 : decode cJ6_bitCount_0f7a4 18 = .ok (.ldc_w 266, 3) := by decide +kernel
theorem dJ6_bitCount_0f7a4_21 : decode cJ6_bitCount_0f7a4 21 = .ok (.iand, 1) := by decide +kernel
theorem dJ6_bitCount_0f7a4_22 : decode cJ6_bitCount_0f7a4 22 = .ok (.iadd, 1) := by decide +kernel
theorem dJ6_bitCount_0f7a4_23 : decode cJ6_bitCount_0f7a4 23 = .ok (.istore_n 0, 1) := by decide +kernel
theorem dJ6_bitCount_0f7a4_24 : decode cJ6_bitCount_0f7a4 24 = .ok (.iload_n 0, 1) := by decide +kernel
theorem dJ6_bitCount_0f7a4_25 : decode cJ6_bitCount_0f7a4 25 = .ok (.iload_n 0, 1) := by decide +kernel
theorem dJ6_bitCount_0f7a4_26 : decode cJ6_bitCount_0f7a4 26 = .ok (.iconst 4, 1) := by decide +kernel
theorem dJ6_bitCount_0f7a4_27 : decode cJ6_bitCount_0f7a4 27 = .ok (.iushr, 1) := by decide +kernel
theorem dJ6_bitCount_0f7a4_28 : decode cJ6_bitCount_0f7a4 28 = .ok (.iadd, 1) := by decide +kernel
theorem dJ6_bitCount_0f7a4_29 : decode cJ6_bitCount_0f7a4 29 = .ok (.ldc_w 267, 3) := by decide +kernel
theorem dJ6_bitCount_0f7a4_32 : decode cJ6_bitCount_0f7a4 32 = .ok (.iand, 1) := by decide +kernel
theorem dJ6_bitCount_0f7a4_33 : decode cJ6_bitCount_0f7a4 33 = .ok (.istore_n 0, 1) := by decide +kernel
theorem dJ6_bitCount_0f7a4_34 : decode cJ6_bitCount_0f7a4 34 = .ok (.iload_n 0, 1) := by decide +kernel
theorem dJ6_bitCount_0f7a4_35 : decode cJ6_bitCount_0f7a4 35 = .ok (.iload_n 0, 1) := by decide +kernel
theorem dJ6_bitCount_0f7a4_36 : decode cJ6_bitCount_0f7a4 36 = .ok (.bipush 8, 2) := by decide +kernel
theorem dJ6_bitCount_0f7a4_38 : decode cJ6_bitCount_0f7a4 38 = .ok (.iushr, 1) := by decide +kernel
theorem dJ6_bitCount_0f7a4_39 : decode cJ6_bitCount_0f7a4 39 = .ok (.iadd, 1) := by decide +kernel
theorem dJ6_bitCount_0f7a4_40 : decode cJ6_bitCount_0f7a4 40 = .ok (.istore_n 0, 1) := by decide +kernel
theorem dJ6_bitCount_0f7a4_41 : decode cJ6_bitCount_0f7a4 41 = .ok (.iload_n 0, 1) := by decide +kernel
theorem dJ6_bitCount_0f7a4_42 : decode cJ6_bitCount_0f7a4 42 = .ok (.iload_n 0, 1) := by decide +kernel
theorem dJ6_bitCount_0f7a4_43 : decode cJ6_bitCount_0f7a4 43 = .ok (.bipush 16, 2) := by decide +kernel
theorem dJ6_bitCount_0f7a4_45 : decode cJ6_bitCount_0f7a4 45 = .ok (.iushr, 1) := by decide +kernel
theorem dJ6_bitCount_0f7a4_46 : decode cJ6_bitCount_0f7a4 46 = .ok (.iadd, 1) := by decide +kernel
theorem dJ6_bitCount_0f7a4_47 : decode cJ6_bitCount_0f7a4 47 = .ok (.istore_n 0, 1) := by decide +kernel
theorem dJ6_bitCount_0f7a4_48 : decode cJ6_bitCount_0f7a4 48 = .ok (.iload_n 0, 1) := by decide +kernel
theorem dJ6_bitCount_0f7a4_49 : decode cJ6_bitCount_0f7a4 49 = .ok (.bipush 63, 2) := by decide +kernel
theorem dJ6_bitCount_0f7a4_51 : decode cJ6_bitCount_0f7a4 51 = .ok (.iand, 1) := by decide +kernel
theorem dJ6_bitCount_0f7a4_52 : decode cJ6_bitCount_0f7a4 52 = .ok (.ireturn, 1) := by decide +kernel
theorem dJ9_floorMod_7cf53_0 : decode cJ9_floorMod_7cf53 0 = .ok (.iload_n 0, 1) := by decide +kernel
theorem dJ9_floorMod_7cf53_1 : decode cJ9_floorMod_7cf53 1 = .ok (.iload_n 1, 1) := by decide +kernel
theorem dJ9_floorMod_7cf53_2 : decode cJ9_floorMod_7cf53 2 = .ok (.irem, 1) := by decide +kernel
theorem dJ9_floorMod_7cf53_3 : decode cJ9_floorMod_7cf53 3 = .ok (.istore_n 2, 1) := by decide +kernel
theorem dJ9_floorMod_7cf53_4 : decode cJ9_floorMod_7cf53 4 = .ok (.iload_n 0, 1) := by decide +kernel
theorem dJ9_floorMod_7cf53_5 : decode cJ9_floorMod_7cf53 5 = .ok (.iload_n 1, 1) := by decide +kernel
theorem dJ9_floorMod_7cf53_6 : decode cJ9_floorMod_7cf53 6 = .ok (.ixor, 1) := by decide +kernel
theorem dJ9_floorMod_7cf53_7 : decode cJ9_floorMod_7cf53 7 = .ok (.ifCond .ge 11, 3) := by decide +kernel
theorem dJ9_floorMod_7cf53_10 : decode cJ9_floorMod_7cf53 10 = .ok (.iload_n 2, 1) := by decide +kernel
theorem dJ9_floorMod_7cf53_11 : decode cJ9_floorMod_7cf53 11 = .ok (.ifCond .eq 7, 3) := by decide +kernel
theorem dJ9_floorMod_7cf53_14 : decode cJ9_floorMod_7cf53 14 = .ok (.iload_n 2, 1) := by decide +kernel
theorem dJ9_floorMod_7cf53_15 : decode cJ9_floorMod_7cf53 15 = .ok (.iload_n 1, 1) := by decide +kernel
theorem dJ9_floorMod_7cf53_16 : decode cJ9_floorMod_7cf53 16 = .ok (.iadd, 1) := by decide +kernel
theorem dJ9_floorMod_7cf53_17 : decode cJ9_floorMod_7cf53 17 = .ok (.ireturn, 1) := by decide +kernel
theorem dJ9_floorMod_7cf53_18 : decode cJ9_floorMod_7cf53 18 = .ok (.iload_n 2, 1) := by decide +kernel
theorem dJ9_floorMod_7cf53_19 : decode cJ9_floorMod_7cf53 19 = .ok (.ireturn, 1) := by decide +kernel
theorem dJ9_max_7cf53_0 : decode cJ9_max_7cf53 0 = .ok (.iload_n 0, 1) := by decide +kernel
theorem dJ9_max_7cf53_1 : decode cJ9_max_7cf53 1 = .ok (.iload_n 1, 1) := by decide +kernel
theorem dJ9_max_7cf53_2 : decode cJ9_max_7cf53 2 = .ok (.if_icmp .lt 7, 3) := by decide +kernel
theorem dJ9_max_7cf53_5 : decode cJ9_max_7cf53 5 = .ok (.iload_n 0, 1) := by decide +kernel
theorem dJ9_max_7cf53_6 : decode cJ9_max_7cf53 6 = .ok (.goto 4, 3) := by decide +kernel
theorem dJ9_max_7cf53_9 : decode cJ9_max_7cf53 9 = .ok (.iload_n 1, 1) := by decide +kernel
theorem dJ9_max_7cf53_10 : decode cJ9_max_7cf53 10 = .ok (.ireturn, 1) := by decide +kernel
theorem dJ7_fill_53178_0 : decode cJ7_fill_53178 0 = .ok (.iconst 0, 1) := by decide +kernel
theorem dJ7_fill_53178_1 : decode cJ7_fill_53178 1 = .ok (.istore_n 2, 1) := by decide +kernel
theorem dJ7_fill_53178_2 : decode cJ7_fill_53178 2 = .ok (.aload_n 0, 1) := by decide +kernel
theorem dJ7_fill_53178_3 : decode cJ7_fill_53178 3 = .ok (.arraylength, 1) := by decide +kernel
theorem dJ7_fill_53178_4 : decode cJ7_fill_53178 4 = .ok (.istore_n 3, 1) := by decide +kernel
theorem dJ7_fill_53178_5 : decode cJ7_fill_53178 5 = .ok (.iload_n 2, 1) := by decide +kernel
theorem dJ7_fill_53178_6 : decode cJ7_fill_53178 6 = .ok (.iload_n 3, 1) := by decide +kernel
theorem dJ7_fill_53178_7 : decode cJ7_fill_53178 7 = .ok (.if_icmp .ge 13, 3) := by decide +kernel
theorem dJ7_fill_53178_10 : decode cJ7_fill_53178 10 = .ok (.aload_n 0, 1) := by decide +kernel
theorem dJ7_fill_53178_11 : decode cJ7_fill_53178 11 = .ok (.iload_n 2, 1) := by decide +kernel
theorem dJ7_fill_53178_12 : decode cJ7_fill_53178 12 = .ok (.iload_n 1, 1) := by decide +kernel
theorem dJ7_fill_53178_13 : decode cJ7_fill_53178 13 = .ok (.iastore, 1) := by decide +kernel
theorem dJ7_fill_53178_14 : decode cJ7_fill_53178 14 = .ok (.iinc 2 1, 3) := by decide +kernel
theorem dJ7_fill_53178_17 : decode cJ7_fill_53178 17 = .ok (.goto (-12), 3) := by decide +kernel
theorem dJ7_fill_53178_20 : decode cJ7_fill_53178 20 = .ok (.return_, 1) := by decide +kernel
