theorem dX0_init_0 : decode cX0_init 0 = .ok (.aload_n 0, 1) := by decide +kernel
theorem dX0_init_1 : decode cX0_init 1 = .ok (.invokespecial 3, 3) := by decide +kernel
theorem dX0_init_4 : decode cX0_init 4 = .ok (.aload_n 0, 1) := by decide +kernel
theorem dX0_init_5 : decode cX0_init 5 = .ok (.bipush 13, 2) := by decide +kernel
theorem dX0_init_7 : decode cX0_init 7 = .ok (.newarray .long, 2) := by decide +kernel
theorem dX0_init_9 : decode cX0_init 9 = .ok (.putfield 9, 3) := by decide +kernel
theorem dX0_init_12 : decode cX0_init 12 = .ok (.return_, 1) := by decide +kernel
theorem dX0_open_0 : decode cX0_open 0 = .ok (.aload_n 1, 1) := by decide +kernel
theorem dX0_open_1 : decode cX0_open 1 = .ok (.getfield 15, 3) := by decide +kernel
theorem dX0_open_4 : decode cX0_open 4 = .ok (.aload_n 1, 1) := by decide +kernel
theorem dX0_open_5 : decode cX0_open 5 = .ok (.getfield 21, 3) := by decide +kernel
theorem dX0_open_8 : decode cX0_open 8 = .ok (.isub, 1) := by decide +kernel
theorem dX0_open_9 : decode cX0_open 9 = .ok (.istore_n 2, 1) := by decide +kernel
theorem dX0_open_10 : decode cX0_open 10 = .ok (.iload_n 2, 1) := by decide +kernel
theorem dX0_open_11 : decode cX0_open 11 = .ok (.ifCond .lt 9, 3) := by decide +kernel
theorem dX0_open_14 : decode cX0_open 14 = .ok (.iload_n 2, 1) := by decide +kernel
theorem dX0_open_15 : decode cX0_open 15 = .ok (.bipush 12, 2) := by decide +kernel
theorem dX0_open_17 : decode cX0_open 17 = .ok (.if_icmp .le 5, 3) := by decide +kernel
theorem dX0_open_20 : decode cX0_open 20 = .ok (.iconst 0, 1) := by decide +kernel
theorem dX0_open_21 : decode cX0_open 21 = .ok (.ireturn, 1) := by decide +kernel
theorem dX0_open_22 : decode cX0_open 22 = .ok (.iconst 0, 1) := by decide +kernel
theorem dX0_open_23 : decode cX0_open 23 = .ok (.istore_n 3, 1) := by decide +kernel
theorem dX0_open_24 : decode cX0_open 24 = .ok (.iload_n 3, 1) := by decide +kernel
theorem dX0_open_25 : decode cX0_open 25 = .ok (.iload_n 2, 1) := by decide +kernel
theorem dX0_open_26 : decode cX0_open 26 = .ok (.if_icmp .ge 26, 3) := by decide +kernel
theorem dX0_open_29 : decode cX0_open 29 = .ok (.aload_n 0, 1) := by decide +kernel
theorem dX0_open_30 : decode cX0_open 30 = .ok (.getfield 9, 3) := by decide +kernel
theorem dX0_open_33 : decode cX0_open 33 = .ok (.iload_n 3, 1) := by decide +kernel
theorem dX0_open_34 : decode cX0_open 34 = .ok (.aload_n 1, 1) := by decide +kernel
theorem dX0_open_35 : decode cX0_open 35 = .ok (.lconst 1, 1) := by decide +kernel
theorem dX0_open_36 : decode cX0_open 36 = .ok (.iload_n 3, 1) := by decide +kernel
theorem dX0_open_37 : decode cX0_open 37 = .ok (.iconst 1, 1) := by decide +kernel
theorem dX0_open_38 : decode cX0_open 38 = .ok (.iadd, 1) := by decide +kernel
theorem dX0_open_39 : decode cX0_open 39 = .ok (.lshl, 1) := by decide +kernel
theorem dX0_open_40 : decode cX0_open 40 = .ok (.lconst 1, 1) := by decide +kernel
theorem dX0_open_41 : decode cX0_open 41 = .ok (.lsub, 1) := by decide +kernel
theorem dX0_open_42 : decode cX0_open 42 = .ok (.invokevirtual 24, 3) := by decide +kernel
theorem dX0_open_45 : decode cX0_open 45 = .ok (.lastore, 1) := by decide +kernel
theorem dX0_open_46 : decode cX0_open 46 = .ok (.iinc 3 1, 3) := by decide +kernel
theorem dX0_open_49 : decode cX0_open 49 = .ok (.goto (-25), 3) := by decide +kernel
theorem dX0_open_52 : decode cX0_open 52 = .ok (.aload_n 0, 1) := by decide +kernel
theorem dX0_open_53 : decode cX0_open 53 = .ok (.getfield 9, 3) := by decide +kernel
theorem dX0_open_56 : decode cX0_open 56 = .ok (.iload_n 2, 1) := by decide +kernel
theorem dX0_open_57 : decode cX0_open 57 = .ok (.lconst 0, 1) := by decide +kernel
theorem dX0_open_58 : decode cX0_open 58 = .ok (.lastore, 1) := by decide +kernel
theorem dX0_open_59 : decode cX0_open 59 = .ok (.aload_n 0, 1) := by decide +kernel
theorem dX0_open_60 : decode cX0_open 60 = .ok (.iconst 1, 1) := by decide +kernel
theorem dX0_open_61 : decode cX0_open 61 = .ok (.iload_n 2, 1) := by decide +kernel
theorem dX0_open_62 : decode cX0_open 62 = .ok (.ishl, 1) := by decide +kernel
theorem dX0_open_63 : decode cX0_open 63 = .ok (.putfield 28, 3) := by decide +kernel
theorem dX0_open_66 : decode cX0_open 66 = .ok (.aload_n 0, 1) := by decide +kernel
theorem dX0_open_67 : decode cX0_open 67 = .ok (.iconst 0, 1) := by decide +kernel
theorem dX0_open_68 : decode cX0_open 68 = .ok (.putfield 31, 3) := by decide +kernel
theorem dX0_open_71 : decode cX0_open 71 = .ok (.aload_n 0, 1) := by decide +kernel
theorem dX0_open_72 : decode cX0_open 72 = .ok (.lconst 0, 1) := by decide +kernel
theorem dX0_open_73 : decode cX0_open 73 = .ok (.putfield 34, 3) := by decide +kernel
theorem dX0_open_76 : decode cX0_open 76 = .ok (.iconst 1, 1) := by decide +kernel
theorem dX0_open_77 : decode cX0_open 77 = .ok (.ireturn, 1) := by decide +kernel
theorem dX0_turn_0 : decode cX0_turn 0 = .ok (.aload_n 0, 1) := by decide +kernel
theorem dX0_turn_1 : decode cX0_turn 1 = .ok (.dup, 1) := by decide +kernel
theorem dX0_turn_2 : decode cX0_turn 2 = .ok (.getfield 31, 3) := by decide +kernel
theorem dX0_turn_5 : decode cX0_turn 5 = .ok (.iconst 1, 1) := by decide +kernel
theorem dX0_turn_6 : decode cX0_turn 6 = .ok (.iadd, 1) := by decide +kernel
theorem dX0_turn_7 : decode cX0_turn 7 = .ok (.putfield 31, 3) := by decide +kernel
theorem dX0_turn_10 : decode cX0_turn 10 = .ok (.aload_n 0, 1) := by decide +kernel
theorem dX0_turn_11 : decode cX0_turn 11 = .ok (.getfield 31, 3) := by decide +kernel
theorem dX0_turn_14 : decode cX0_turn 14 = .ok (.i2l, 1) := by decide +kernel
theorem dX0_turn_15 : decode cX0_turn 15 = .ok (.invokestatic 38, 3) := by decide +kernel
theorem dX0_turn_18 : decode cX0_turn 18 = .ok (.istore_n 1, 1) := by decide +kernel
theorem dX0_turn_19 : decode cX0_turn 19 = .ok (.iload_n 1, 1) := by decide +kernel
theorem dX0_turn_20 : decode cX0_turn 20 = .ok (.bipush 12, 2) := by decide +kernel
theorem dX0_turn_22 : decode cX0_turn 22 = .ok (.if_icmp .gt 18, 3) := by decide +kernel
theorem dX0_turn_25 : decode cX0_turn 25 = .ok (.aload_n 0, 1) := by decide +kernel
theorem dX0_turn_26 : decode cX0_turn 26 = .ok (.dup, 1) := by decide +kernel
theorem dX0_turn_27 : decode cX0_turn 27 = .ok (.getfield 34, 3) := by decide +kernel
theorem dX0_turn_30 : decode cX0_turn 30 = .ok (.aload_n 0, 1) := by decide +kernel
theorem dX0_turn_31 : decode cX0_turn 31 = .ok (.getfield 9, 3) := by decide +kernel
theorem dX0_turn_34 : decode cX0_turn 34 = .ok (.iload_n 1, 1) := by decide +kernel
theorem dX0_turn_35 : decode cX0_turn 35 = .ok (.laload, 1) := by decide +kernel
theorem dX0_turn_36 : decode cX0_turn 36 = .ok (.lxor, 1) := by decide +kernel
theorem dX0_turn_37 : decode cX0_turn 37 = .ok (.putfield 34, 3) := by decide +kernel
theorem dX0_turn_40 : decode cX0_turn 40 = .ok (.return_, 1) := by decide +kernel
theorem dX1_init_0 : decode cX1_init 0 = .ok (.aload_n 0, 1) := by decide +kernel
theorem dX1_init_1 : decode cX1_init 1 = .ok (.invokespecial 3, 3) := by decide +kernel
theorem dX1_init_4 : decode cX1_init 4 = .ok (.aload_n 0, 1) := by decide +kernel
theorem dX1_init_5 : decode cX1_init 5 = .ok (.iconst 5, 1) := by decide +kernel
theorem dX1_init_6 : decode cX1_init 6 = .ok (.anewarray 9, 3) := by decide +kernel
theorem dX1_init_9 : decode cX1_init 9 = .ok (.putfield 11, 3) := by decide +kernel
theorem dX1_init_12 : decode cX1_init 12 = .ok (.aload_n 0, 1) := by decide +kernel
theorem dX1_init_13 : decode cX1_init 13 = .ok (.iconst 5, 1) := by decide +kernel
theorem dX1_init_14 : decode cX1_init 14 = .ok (.bipush 16, 2) := by decide +kernel
theorem dX1_init_16 : decode cX1_init 16 = .ok (.multianewarray 17 2, 4) := by decide +kernel
theorem dX1_init_20 : decode cX1_init 20 = .ok (.putfield 19, 3) := by decide +kernel
theorem dX1_init_23 : decode cX1_init 23 = .ok (.aload_n 0, 1) := by decide +kernel
theorem dX1_init_24 : decode cX1_init 24 = .ok (.iconst 5, 1) := by decide +kernel
theorem dX1_init_25 : decode cX1_init 25 = .ok (.newarray .int, 2) := by decide +kernel
theorem dX1_init_27 : decode cX1_init 27 = .ok (.putfield 22, 3) := by decide +kernel
theorem dX1_init_30 : decode cX1_init 30 = .ok (.aload_n 0, 1) := by decide +kernel
theorem dX1_init_31 : decode cX1_init 31 = .ok (.iconst 4, 1) := by decide +kernel
theorem dX1_init_32 : decode cX1_init 32 = .ok (.newarray .int, 2) := by decide +kernel
theorem dX1_init_34 : decode cX1_init 34 = .ok (.putfield 26, 3) := by decide +kernel
theorem dX1_init_37 : decode cX1_init 37 = .ok (.aload_n 0, 1) := by decide +kernel
theorem dX1_init_38 : decode cX1_init 38 = .ok (.iconst 4, 1) := by decide +kernel
theorem dX1_init_39 : decode cX1_init 39 = .ok (.newarray .int, 2) := by decide +kernel
theorem dX1_init_41 : decode cX1_init 41 = .ok (.putfield 29, 3) := by decide +kernel
theorem dX1_init_44 : decode cX1_init 44 = .ok (.aload_n 0, 1) := by decide +kernel
theorem dX1_init_45 : decode cX1_init 45 = .ok (.iconst 4, 1) := by decide +kernel
theorem dX1_init_46 : decode cX1_init 46 = .ok (.newarray .int, 2) := by decide +kernel
theorem dX1_init_48 : decode cX1_init 48 = .ok (.putfield 32, 3) := by decide +kernel
theorem dX1_init_51 : decode cX1_init 51 = .ok (.aload_n 0, 1) := by decide +kernel
theorem dX1_init_52 : decode cX1_init 52 = .ok (.aload_n 1, 1) := by decide +kernel
theorem dX1_init_53 : decode cX1_init 53 = .ok (.putfield 35, 3) := by decide +kernel
theorem dX1_init_56 : decode cX1_init 56 = .ok (.return_, 1) := by decide +kernel
theorem dX1_tally_0 : decode cX1_tally 0 = .ok (.iload_n 2, 1) := by decide +kernel
theorem dX1_tally_1 : decode cX1_tally 1 = .ok (.iconst 4, 1) := by decide +kernel
theorem dX1_tally_2 : decode cX1_tally 2 = .ok (.imul, 1) := by decide +kernel
theorem dX1_tally_3 : decode cX1_tally 3 = .ok (.iload_n 3, 1) := by decide +kernel
theorem dX1_tally_4 : decode cX1_tally 4 = .ok (.iadd, 1) := by decide +kernel
theorem dX1_tally_5 : decode cX1_tally 5 = .ok (.iconst 1, 1) := by decide +kernel
theorem dX1_tally_6 : decode cX1_tally 6 = .ok (.isub, 1) := by decide +kernel
theorem dX1_tally_7 : decode cX1_tally 7 = .ok (.istore 4, 2) := by decide +kernel
theorem dX1_tally_9 : decode cX1_tally 9 = .ok (.aload_n 1, 1) := by decide +kernel
theorem dX1_tally_10 : decode cX1_tally 10 = .ok (.getfield 39, 3) := by decide +kernel
theorem dX1_tally_13 : decode cX1_tally 13 = .ok (.iload 4, 2) := by decide +kernel
theorem dX1_tally_15 : decode cX1_tally 15 = .ok (.iaload, 1) := by decide +kernel
theorem dX1_tally_16 : decode cX1_tally 16 = .ok (.iconst (-1), 1) := by decide +kernel
theorem dX1_tally_17 : decode cX1_tally 17 = .ok (.if_icmp .ne 17, 3) := by decide +kernel
theorem dX1_tally_20 : decode cX1_tally 20 = .ok (.aload_n 1, 1) := by decide +kernel
theorem dX1_tally_21 : decode cX1_tally 21 = .ok (.getfield 39, 3) := by decide +kernel
theorem dX1_tally_24 : decode cX1_tally 24 = .ok (.iload 4, 2) := by decide +kernel
theorem dX1_tally_26 : decode cX1_tally 26 = .ok (.aload_n 0, 1) := by decide +kernel
theorem dX1_tally_27 : decode cX1_tally 27 = .ok (.aload_n 1, 1) := by decide +kernel
theorem dX1_tally_28 : decode cX1_tally 28 = .ok (.iload_n 2, 1) := by decide +kernel
theorem dX1_tally_29 : decode cX1_tally 29 = .ok (.iload_n 3, 1) := by decide +kernel
theorem dX1_tally_30 : decode cX1_tally 30 = .ok (.invokevirtual 42, 3) := by decide +kernel
theorem dX1_tally_33 : decode cX1_tally 33 = .ok (.iastore, 1) := by decide +kernel
theorem dX1_tally_34 : decode cX1_tally 34 = .ok (.aload_n 1, 1) := by decide +kernel
theorem dX1_tally_35 : decode cX1_tally 35 = .ok (.getfield 39, 3) := by decide +kernel
theorem dX1_tally_38 : decode cX1_tally 38 = .ok (.iload 4, 2) := by decide +kernel
theorem dX1_tally_40 : decode cX1_tally 40 = .ok (.iaload, 1) := by decide +kernel
theorem dX1_tally_41 : decode cX1_tally 41 = .ok (.ireturn, 1) := by decide +kernel
theorem dX1_leastKnot_0 : decode cX1_leastKnot 0 = .ok (.aload_n 0, 1) := by decide +kernel
theorem dX1_leastKnot_1 : decode cX1_leastKnot 1 = .ok (.getfield 11, 3) := by decide +kernel
theorem dX1_leastKnot_4 : decode cX1_leastKnot 4 = .ok (.iload_n 2, 1) := by decide +kernel
theorem dX1_leastKnot_5 : decode cX1_leastKnot 5 = .ok (.aaload, 1) := by decide +kernel
theorem dX1_leastKnot_6 : decode cX1_leastKnot 6 = .ok (.aload_n 1, 1) := by decide +kernel
theorem dX1_leastKnot_7 : decode cX1_leastKnot 7 = .ok (.if_acmp .eq 21, 3) := by decide +kernel
theorem dX1_leastKnot_10 : decode cX1_leastKnot 10 = .ok (.aload_n 1, 1) := by decide +kernel
theorem dX1_leastKnot_11 : decode cX1_leastKnot 11 = .ok (.getfield 39, 3) := by decide +kernel
theorem dX1_leastKnot_14 : decode cX1_leastKnot 14 = .ok (.bipush 12, 2) := by decide +kernel
theorem dX1_leastKnot_16 : decode cX1_leastKnot 16 = .ok (.iload_n 2, 1) := by decide +kernel
theorem dX1_leastKnot_17 : decode cX1_leastKnot 17 = .ok (.iadd, 1) := by decide +kernel
theorem dX1_leastKnot_18 : decode cX1_leastKnot 18 = .ok (.iconst 1, 1) := by decide +kernel
theorem dX1_leastKnot_19 : decode cX1_leastKnot 19 = .ok (.isub, 1) := by decide +kernel
theorem dX1_leastKnot_20 : decode cX1_leastKnot 20 = .ok (.aload_n 0, 1) := by decide +kernel
theorem dX1_leastKnot_21 : decode cX1_leastKnot 21 = .ok (.aload_n 1, 1) := by decide +kernel
theorem dX1_leastKnot_22 : decode cX1_leastKnot 22 = .ok (.iconst 3, 1) := by decide +kernel
theorem dX1_leastKnot_23 : decode cX1_leastKnot 23 = .ok (.iload_n 2, 1) := by decide +kernel
theorem dX1_leastKnot_24 : decode cX1_leastKnot 24 = .ok (.invokevirtual 42, 3) := by decide +kernel
theorem dX1_leastKnot_27 : decode cX1_leastKnot 27 = .ok (.iastore, 1) := by decide +kernel
theorem dX1_leastKnot_28 : decode cX1_leastKnot 28 = .ok (.iload_n 3, 1) := by decide +kernel
theorem dX1_leastKnot_29 : decode cX1_leastKnot 29 = .ok (.ifCond .lt 13, 3) := by decide +kernel
theorem dX1_leastKnot_32 : decode cX1_leastKnot 32 = .ok (.iload_n 3, 1) := by decide +kernel
theorem dX1_leastKnot_33 : decode cX1_leastKnot 33 = .ok (.aload_n 0, 1) := by decide +kernel
theorem dX1_leastKnot_34 : decode cX1_leastKnot 34 = .ok (.getfield 22, 3) := by decide +kernel
theorem dX1_leastKnot_37 : decode cX1_leastKnot 37 = .ok (.iload_n 2, 1) := by decide +kernel
theorem dX1_leastKnot_38 : decode cX1_leastKnot 38 = .ok (.iaload, 1) := by decide +kernel
theorem dX1_leastKnot_39 : decode cX1_leastKnot 39 = .ok (.if_icmp .lt 7, 3) := by decide +kernel
theorem dX1_leastKnot_42 : decode cX1_leastKnot 42 = .ok (.lconst 0, 1) := by decide +kernel
theorem dX1_leastKnot_43 : decode cX1_leastKnot 43 = .ok (.goto 11, 3) := by decide +kernel
theorem dX1_leastKnot_46 : decode cX1_leastKnot 46 = .ok (.aload_n 0, 1) := by decide +kernel
theorem dX1_leastKnot_47 : decode cX1_leastKnot 47 = .ok (.getfield 19, 3) := by decide +kernel
theorem dX1_leastKnot_50 : decode cX1_leastKnot 50 = .ok (.iload_n 2, 1) := by decide +kernel
theorem dX1_leastKnot_51 : decode cX1_leastKnot 51 = .ok (.aaload, 1) := by decide +kernel
theorem dX1_leastKnot_52 : decode cX1_leastKnot 52 = .ok (.iload_n 3, 1) := by decide +kernel
theorem dX1_leastKnot_53 : decode cX1_leastKnot 53 = .ok (.laload, 1) := by decide +kernel
theorem dX1_leastKnot_54 : decode cX1_leastKnot 54 = .ok (.lreturn, 1) := by decide +kernel
theorem dX1_count_0 : decode cX1_count 0 = .ok (.aload_n 0, 1) := by decide +kernel
theorem dX1_count_1 : decode cX1_count 1 = .ok (.aload_n 1, 1) := by decide +kernel
theorem dX1_count_2 : decode cX1_count 2 = .ok (.putfield 35, 3) := by decide +kernel
theorem dX1_count_5 : decode cX1_count 5 = .ok (.aload_n 0, 1) := by decide +kernel
theorem dX1_count_6 : decode cX1_count 6 = .ok (.iload_n 3, 1) := by decide +kernel
theorem dX1_count_7 : decode cX1_count 7 = .ok (.putfield 46, 3) := by decide +kernel
theorem dX1_count_10 : decode cX1_count 10 = .ok (.aload_n 0, 1) := by decide +kernel
theorem dX1_count_11 : decode cX1_count 11 = .ok (.iload_n 3, 1) := by decide +kernel
theorem dX1_count_12 : decode cX1_count 12 = .ok (.iconst 1, 1) := by decide +kernel
theorem dX1_count_13 : decode cX1_count 13 = .ok (.isub, 1) := by decide +kernel
theorem dX1_count_14 : decode cX1_count 14 = .ok (.putfield 50, 3) := by decide +kernel
theorem dX1_count_17 : decode cX1_count 17 = .ok (.iload_n 2, 1) := by decide +kernel
theorem dX1_count_18 : decode cX1_count 18 = .ok (.iconst 3, 1) := by decide +kernel
theorem dX1_count_19 : decode cX1_count 19 = .ok (.if_icmp .ne 17, 3) := by decide +kernel
theorem dX1_count_22 : decode cX1_count 22 = .ok (.aload_n 0, 1) := by decide +kernel
theorem dX1_count_23 : decode cX1_count 23 = .ok (.getfield 11, 3) := by decide +kernel
theorem dX1_count_26 : decode cX1_count 26 = .ok (.iload_n 3, 1) := by decide +kernel
theorem dX1_count_27 : decode cX1_count 27 = .ok (.aload_n 1, 1) := by decide +kernel
theorem dX1_count_28 : decode cX1_count 28 = .ok (.aastore, 1) := by decide +kernel
theorem dX1_count_29 : decode cX1_count 29 = .ok (.aload_n 0, 1) := by decide +kernel
theorem dX1_count_30 : decode cX1_count 30 = .ok (.getfield 22, 3) := by decide +kernel
theorem dX1_count_33 : decode cX1_count 33 = .ok (.iload_n 3, 1) := by decide +kernel
theorem dX1_count_34 : decode cX1_count 34 = .ok (.iconst 0, 1) := by decide +kernel
theorem dX1_count_35 : decode cX1_count 35 = .ok (.iastore, 1) := by decide +kernel
theorem dX1_count_36 : decode cX1_count 36 = .ok (.iconst 0, 1) := by decide +kernel
theorem dX1_count_37 : decode cX1_count 37 = .ok (.istore 4, 2) := by decide +kernel
theorem dX1_count_39 : decode cX1_count 39 = .ok (.aload_n 0, 1) := by decide +kernel
theorem dX1_count_40 : decode cX1_count 40 = .ok (.getfield 50, 3) := by decide +kernel
theorem dX1_count_43 : decode cX1_count 43 = .ok (.aload_n 0, 1) := by decide +kernel
theorem dX1_count_44 : decode cX1_count 44 = .ok (.getfield 35, 3) := by decide +kernel
theorem dX1_count_47 : decode cX1_count 47 = .ok (.getfield 53, 3) := by decide +kernel
theorem dX1_count_50 : decode cX1_count 50 = .ok (.if_icmp .ge 7, 3) := by decide +kernel
theorem dX1_count_53 : decode cX1_count 53 = .ok (.iconst 1, 1) := by decide +kernel
theorem dX1_count_54 : decode cX1_count 54 = .ok (.goto 4, 3) := by decide +kernel
theorem dX1_count_57 : decode cX1_count 57 = .ok (.iconst 0, 1) := by decide +kernel
theorem dX1_count_58 : decode cX1_count 58 = .ok (.istore 5, 2) := by decide +kernel
theorem dX1_count_60 : decode cX1_count 60 = .ok (.iconst 0, 1) := by decide +kernel
theorem dX1_count_61 : decode cX1_count 61 = .ok (.istore 6, 2) := by decide +kernel
theorem dX1_count_63 : decode cX1_count 63 = .ok (.iload 6, 2) := by decide +kernel
theorem dX1_count_65 : decode cX1_count 65 = .ok (.aload_n 0, 1) := by decide +kernel
theorem dX1_count_66 : decode cX1_count 66 = .ok (.getfield 50, 3) := by decide +kernel
theorem dX1_count_69 : decode cX1_count 69 = .ok (.if_icmp .ge 18, 3) := by decide +kernel
theorem dX1_count_72 : decode cX1_count 72 = .ok (.aload_n 0, 1) := by decide +kernel
theorem dX1_count_73 : decode cX1_count 73 = .ok (.getfield 26, 3) := by decide +kernel
theorem dX1_count_76 : decode cX1_count 76 = .ok (.iload 6, 2) := by decide +kernel
theorem dX1_count_78 : decode cX1_count 78 = .ok (.iload 6, 2) := by decide +kernel
theorem dX1_count_80 : decode cX1_count 80 = .ok (.iastore, 1) := by decide +kernel
theorem dX1_count_81 : decode cX1_count 81 = .ok (.iinc 6 1, 3) := by decide +kernel
theorem dX1_count_84 : decode cX1_count 84 = .ok (.goto (-21), 3) := by decide +kernel
theorem dX1_count_87 : decode cX1_count 87 = .ok (.aload_n 0, 1) := by decide +kernel
theorem dX1_count_88 : decode cX1_count 88 = .ok (.iconst 0, 1) := by decide +kernel
theorem dX1_count_89 : decode cX1_count 89 = .ok (.invokevirtual 56, 3) := by decide +kernel
theorem dX1_count_92 : decode cX1_count 92 = .ok (.iconst 0, 1) := by decide +kernel
theorem dX1_count_93 : decode cX1_count 93 = .ok (.istore 6, 2) := by decide +kernel
theorem dX1_count_95 : decode cX1_count 95 = .ok (.iload 6, 2) := by decide +kernel
theorem dX1_count_97 : decode cX1_count 97 = .ok (.ldc 60, 2) := by decide +kernel
theorem dX1_count_99 : decode cX1_count 99 = .ok (.if_icmp .ge 94, 3) := by decide +kernel
theorem dX1_count_102 : decode cX1_count 102 = .ok (.iload 5, 2) := by decide +kernel
theorem dX1_count_104 : decode cX1_count 104 = .ok (.ifCond .eq 89, 3) := by decide +kernel
theorem dX1_count_107 : decode cX1_count 107 = .ok (.iload_n 2, 1) := by decide +kernel
theorem dX1_count_108 : decode cX1_count 108 = .ok (.tableswitch 64 0 2 #[28, 40, 52], 28) := by decide +kernel
theorem dX1_count_136 : decode cX1_count 136 = .ok (.iload 4, 2) := by decide +kernel
theorem dX1_count_138 : decode cX1_count 138 = .ok (.aload_n 0, 1) := by decide +kernel
theorem dX1_count_139 : decode cX1_count 139 = .ok (.invokevirtual 61, 3) := by decide +kernel
theorem dX1_count_142 : decode cX1_count 142 = .ok (.iadd, 1) := by decide +kernel
theorem dX1_count_143 : decode cX1_count 143 = .ok (.istore 4, 2) := by decide +kernel
theorem dX1_count_145 : decode cX1_count 145 = .ok (.goto 36, 3) := by decide +kernel
theorem dX1_count_148 : decode cX1_count 148 = .ok (.iload 4, 2) := by decide +kernel
theorem dX1_count_150 : decode cX1_count 150 = .ok (.aload_n 0, 1) := by decide +kernel
theorem dX1_count_151 : decode cX1_count 151 = .ok (.invokevirtual 65, 3) := by decide +kernel
theorem dX1_count_154 : decode cX1_count 154 = .ok (.iadd, 1) := by decide +kernel
theorem dX1_count_155 : decode cX1_count 155 = .ok (.istore 4, 2) := by decide +kernel
theorem dX1_count_157 : decode cX1_count 157 = .ok (.goto 24, 3) := by decide +kernel
theorem dX1_count_160 : decode cX1_count 160 = .ok (.iload 4, 2) := by decide +kernel
theorem dX1_count_162 : decode cX1_count 162 = .ok (.aload_n 0, 1) := by decide +kernel
theorem dX1_count_163 : decode cX1_count 163 = .ok (.invokevirtual 68, 3) := by decide +kernel
theorem dX1_count_166 : decode cX1_count 166 = .ok (.iadd, 1) := by decide +kernel
theorem dX1_count_167 : decode cX1_count 167 = .ok (.istore 4, 2) := by decide +kernel
theorem dX1_count_169 : decode cX1_count 169 = .ok (.goto 12, 3) := by decide +kernel
theorem dX1_count_172 : decode cX1_count 172 = .ok (.iload 4, 2) := by decide +kernel
theorem dX1_count_174 : decode cX1_count 174 = .ok (.aload_n 0, 1) := by decide +kernel
theorem dX1_count_175 : decode cX1_count 175 = .ok (.invokevirtual 71, 3) := by decide +kernel
theorem dX1_count_178 : decode cX1_count 178 = .ok (.iadd, 1) := by decide +kernel
theorem dX1_count_179 : decode cX1_count 179 = .ok (.istore 4, 2) := by decide +kernel
theorem dX1_count_181 : decode cX1_count 181 = .ok (.aload_n 0, 1) := by decide +kernel
theorem dX1_count_182 : decode cX1_count 182 = .ok (.invokevirtual 74, 3) := by decide +kernel
theorem dX1_count_185 : decode cX1_count 185 = .ok (.istore 5, 2) := by decide +kernel
theorem dX1_count_187 : decode cX1_count 187 = .ok (.iinc 6 1, 3) := by decide +kernel
theorem dX1_count_190 : decode cX1_count 190 = .ok (.goto (-95), 3) := by decide +kernel
theorem dX1_count_193 : decode cX1_count 193 = .ok (.iload 4, 2) := by decide +kernel
theorem dX1_count_195 : decode cX1_count 195 = .ok (.ireturn, 1) := by decide +kernel
theorem dX1_turn_0 : decode cX1_turn 0 = .ok (.aload_n 0, 1) := by decide +kernel
theorem dX1_turn_1 : decode cX1_turn 1 = .ok (.getfield 50, 3) := by decide +kernel
theorem dX1_turn_4 : decode cX1_turn 4 = .ok (.iconst 1, 1) := by decide +kernel
theorem dX1_turn_5 : decode cX1_turn 5 = .ok (.isub, 1) := by decide +kernel
theorem dX1_turn_6 : decode cX1_turn 6 = .ok (.istore_n 1, 1) := by decide +kernel
theorem dX1_turn_7 : decode cX1_turn 7 = .ok (.iload_n 1, 1) := by decide +kernel
theorem dX1_turn_8 : decode cX1_turn 8 = .ok (.ifCond .lt 83, 3) := by decide +kernel
theorem dX1_turn_11 : decode cX1_turn 11 = .ok (.aload_n 0, 1) := by decide +kernel
theorem dX1_turn_12 : decode cX1_turn 12 = .ok (.getfield 26, 3) := by decide +kernel
theorem dX1_turn_15 : decode cX1_turn 15 = .ok (.iload_n 1, 1) := by decide +kernel
theorem dX1_turn_16 : decode cX1_turn 16 = .ok (.iaload, 1) := by decide +kernel
theorem dX1_turn_17 : decode cX1_turn 17 = .ok (.aload_n 0, 1) := by decide +kernel
theorem dX1_turn_18 : decode cX1_turn 18 = .ok (.getfield 35, 3) := by decide +kernel
theorem dX1_turn_21 : decode cX1_turn 21 = .ok (.getfield 53, 3) := by decide +kernel
theorem dX1_turn_24 : decode cX1_turn 24 = .ok (.aload_n 0, 1) := by decide +kernel
theorem dX1_turn_25 : decode cX1_turn 25 = .ok (.getfield 46, 3) := by decide +kernel
theorem dX1_turn_28 : decode cX1_turn 28 = .ok (.isub, 1) := by decide +kernel
theorem dX1_turn_29 : decode cX1_turn 29 = .ok (.iload_n 1, 1) := by decide +kernel
theorem dX1_turn_30 : decode cX1_turn 30 = .ok (.iadd, 1) := by decide +kernel
theorem dX1_turn_31 : decode cX1_turn 31 = .ok (.if_icmp .ge 54, 3) := by decide +kernel
theorem dX1_turn_34 : decode cX1_turn 34 = .ok (.aload_n 0, 1) := by decide +kernel
theorem dX1_turn_35 : decode cX1_turn 35 = .ok (.getfield 26, 3) := by decide +kernel
theorem dX1_turn_38 : decode cX1_turn 38 = .ok (.iload_n 1, 1) := by decide +kernel
theorem dX1_turn_39 : decode cX1_turn 39 = .ok (.dup2, 1) := by decide +kernel
theorem dX1_turn_40 : decode cX1_turn 40 = .ok (.iaload, 1) := by decide +kernel
theorem dX1_turn_41 : decode cX1_turn 41 = .ok (.iconst 1, 1) := by decide +kernel
theorem dX1_turn_42 : decode cX1_turn 42 = .ok (.iadd, 1) := by decide +kernel
theorem dX1_turn_43 : decode cX1_turn 43 = .ok (.iastore, 1) := by decide +kernel
theorem dX1_turn_44 : decode cX1_turn 44 = .ok (.iload_n 1, 1) := by decide +kernel
theorem dX1_turn_45 : decode cX1_turn 45 = .ok (.iconst 1, 1) := by decide +kernel
theorem dX1_turn_46 : decode cX1_turn 46 = .ok (.iadd, 1) := by decide +kernel
theorem dX1_turn_47 : decode cX1_turn 47 = .ok (.istore_n 2, 1) := by decide +kernel
theorem dX1_turn_48 : decode cX1_turn 48 = .ok (.iload_n 2, 1) := by decide +kernel
theorem dX1_turn_49 : decode cX1_turn 49 = .ok (.aload_n 0, 1) := by decide +kernel
theorem dX1_turn_50 : decode cX1_turn 50 = .ok (.getfield 50, 3) := by decide +kernel
theorem dX1_turn_53 : decode cX1_turn 53 = .ok (.if_icmp .ge 25, 3) := by decide +kernel
theorem dX1_turn_56 : decode cX1_turn 56 = .ok (.aload_n 0, 1) := by decide +kernel
theorem dX1_turn_57 : decode cX1_turn 57 = .ok (.getfield 26, 3) := by decide +kernel
theorem dX1_turn_60 : decode cX1_turn 60 = .ok (.iload_n 2, 1) := by decide +kernel
theorem dX1_turn_61 : decode cX1_turn 61 = .ok (.aload_n 0, 1) := by decide +kernel
theorem dX1_turn_62 : decode cX1_turn 62 = .ok (.getfield 26, 3) := by decide +kernel
theorem dX1_turn_65 : decode cX1_turn 65 = .ok (.iload_n 2, 1) := by decide +kernel
theorem dX1_turn_66 : decode cX1_turn 66 = .ok (.iconst 1, 1) := by decide +kernel
theorem dX1_turn_67 : decode cX1_turn 67 = .ok (.isub, 1) := by decide +kernel
theorem dX1_turn_68 : decode cX1_turn 68 = .ok (.iaload, 1) := by decide +kernel
theorem dX1_turn_69 : decode cX1_turn 69 = .ok (.iconst 1, 1) := by decide +kernel
theorem dX1_turn_70 : decode cX1_turn 70 = .ok (.iadd, 1) := by decide +kernel
theorem dX1_turn_71 : decode cX1_turn 71 = .ok (.iastore, 1) := by decide +kernel
theorem dX1_turn_72 : decode cX1_turn 72 = .ok (.iinc 2 1, 3) := by decide +kernel
theorem dX1_turn_75 : decode cX1_turn 75 = .ok (.goto (-27), 3) := by decide +kernel
theorem dX1_turn_78 : decode cX1_turn 78 = .ok (.aload_n 0, 1) := by decide +kernel
theorem dX1_turn_79 : decode cX1_turn 79 = .ok (.iload_n 1, 1) := by decide +kernel
theorem dX1_turn_80 : decode cX1_turn 80 = .ok (.invokevirtual 56, 3) := by decide +kernel
theorem dX1_turn_83 : decode cX1_turn 83 = .ok (.iconst 1, 1) := by decide +kernel
theorem dX1_turn_84 : decode cX1_turn 84 = .ok (.ireturn, 1) := by decide +kernel
theorem dX1_turn_85 : decode cX1_turn 85 = .ok (.iinc 1 (-1), 3) := by decide +kernel
theorem dX1_turn_88 : decode cX1_turn 88 = .ok (.goto (-81), 3) := by decide +kernel
theorem dX1_turn_91 : decode cX1_turn 91 = .ok (.iconst 0, 1) := by decide +kernel
theorem dX1_turn_92 : decode cX1_turn 92 = .ok (.ireturn, 1) := by decide +kernel
theorem dX1_refresh_0 : decode cX1_refresh 0 = .ok (.iload_n 1, 1) := by decide +kernel
theorem dX1_refresh_1 : decode cX1_refresh 1 = .ok (.istore_n 2, 1) := by decide +kernel
theorem dX1_refresh_2 : decode cX1_refresh 2 = .ok (.iload_n 2, 1) := by decide +kernel
theorem dX1_refresh_3 : decode cX1_refresh 3 = .ok (.aload_n 0, 1) := by decide +kernel
theorem dX1_refresh_4 : decode cX1_refresh 4 = .ok (.getfield 50, 3) := by decide +kernel
theorem dX1_refresh_7 : decode cX1_refresh 7 = .ok (.if_icmp .ge 56, 3) := by decide +kernel
theorem dX1_refresh_10 : decode cX1_refresh 10 = .ok (.aload_n 0, 1) := by decide +kernel
theorem dX1_refresh_11 : decode cX1_refresh 11 = .ok (.getfield 35, 3) := by decide +kernel
theorem dX1_refresh_14 : decode cX1_refresh 14 = .ok (.getfield 78, 3) := by decide +kernel
theorem dX1_refresh_17 : decode cX1_refresh 17 = .ok (.aload_n 0, 1) := by decide +kernel
theorem dX1_refresh_18 : decode cX1_refresh 18 = .ok (.getfield 26, 3) := by decide +kernel
theorem dX1_refresh_21 : decode cX1_refresh 21 = .ok (.iload_n 2, 1) := by decide +kernel
theorem dX1_refresh_22 : decode cX1_refresh 22 = .ok (.iaload, 1) := by decide +kernel
theorem dX1_refresh_23 : decode cX1_refresh 23 = .ok (.iaload, 1) := by decide +kernel
theorem dX1_refresh_24 : decode cX1_refresh 24 = .ok (.istore_n 3, 1) := by decide +kernel
theorem dX1_refresh_25 : decode cX1_refresh 25 = .ok (.aload_n 0, 1) := by decide +kernel
theorem dX1_refresh_26 : decode cX1_refresh 26 = .ok (.getfield 29, 3) := by decide +kernel
theorem dX1_refresh_29 : decode cX1_refresh 29 = .ok (.iload_n 2, 1) := by decide +kernel
theorem dX1_refresh_30 : decode cX1_refresh 30 = .ok (.iconst 1, 1) := by decide +kernel
theorem dX1_refresh_31 : decode cX1_refresh 31 = .ok (.iadd, 1) := by decide +kernel
theorem dX1_refresh_32 : decode cX1_refresh 32 = .ok (.aload_n 0, 1) := by decide +kernel
theorem dX1_refresh_33 : decode cX1_refresh 33 = .ok (.getfield 29, 3) := by decide +kernel
theorem dX1_refresh_36 : decode cX1_refresh 36 = .ok (.iload_n 2, 1) := by decide +kernel
theorem dX1_refresh_37 : decode cX1_refresh 37 = .ok (.iaload, 1) := by decide +kernel
theorem dX1_refresh_38 : decode cX1_refresh 38 = .ok (.iload_n 3, 1) := by decide +kernel
theorem dX1_refresh_39 : decode cX1_refresh 39 = .ok (.ixor, 1) := by decide +kernel
theorem dX1_refresh_40 : decode cX1_refresh 40 = .ok (.iastore, 1) := by decide +kernel
theorem dX1_refresh_41 : decode cX1_refresh 41 = .ok (.aload_n 0, 1) := by decide +kernel
theorem dX1_refresh_42 : decode cX1_refresh 42 = .ok (.getfield 32, 3) := by decide +kernel
theorem dX1_refresh_45 : decode cX1_refresh 45 = .ok (.iload_n 2, 1) := by decide +kernel
theorem dX1_refresh_46 : decode cX1_refresh 46 = .ok (.iconst 1, 1) := by decide +kernel
theorem dX1_refresh_47 : decode cX1_refresh 47 = .ok (.iadd, 1) := by decide +kernel
theorem dX1_refresh_48 : decode cX1_refresh 48 = .ok (.aload_n 0, 1) := by decide +kernel
theorem dX1_refresh_49 : decode cX1_refresh 49 = .ok (.getfield 32, 3) := by decide +kernel
theorem dX1_refresh_52 : decode cX1_refresh 52 = .ok (.iload_n 2, 1) := by decide +kernel
theorem dX1_refresh_53 : decode cX1_refresh 53 = .ok (.iaload, 1) := by decide +kernel
theorem dX1_refresh_54 : decode cX1_refresh 54 = .ok (.iload_n 3, 1) := by decide +kernel
theorem dX1_refresh_55 : decode cX1_refresh 55 = .ok (.ior, 1) := by decide +kernel
theorem dX1_refresh_56 : decode cX1_refresh 56 = .ok (.iastore, 1) := by decide +kernel
theorem dX1_refresh_57 : decode cX1_refresh 57 = .ok (.iinc 2 1, 3) := by decide +kernel
theorem dX1_refresh_60 : decode cX1_refresh 60 = .ok (.goto (-58), 3) := by decide +kernel
theorem dX1_refresh_63 : decode cX1_refresh 63 = .ok (.return_, 1) := by decide +kernel
theorem dX1_firstLast_0 : decode cX1_firstLast 0 = .ok (.aload_n 0, 1) := by decide +kernel
theorem dX1_firstLast_1 : decode cX1_firstLast 1 = .ok (.getfield 50, 3) := by decide +kernel
theorem dX1_firstLast_4 : decode cX1_firstLast 4 = .ok (.ifCond .ne 7, 3) := by decide +kernel
theorem dX1_firstLast_7 : decode cX1_firstLast 7 = .ok (.iconst 0, 1) := by decide +kernel
theorem dX1_firstLast_8 : decode cX1_firstLast 8 = .ok (.goto 16, 3) := by decide +kernel
theorem dX1_firstLast_11 : decode cX1_firstLast 11 = .ok (.aload_n 0, 1) := by decide +kernel
theorem dX1_firstLast_12 : decode cX1_firstLast 12 = .ok (.getfield 26, 3) := by decide +kernel
theorem dX1_firstLast_15 : decode cX1_firstLast 15 = .ok (.aload_n 0, 1) := by decide +kernel
theorem dX1_firstLast_16 : decode cX1_firstLast 16 = .ok (.getfield 50, 3) := by decide +kernel
theorem dX1_firstLast_19 : decode cX1_firstLast 19 = .ok (.iconst 1, 1) := by decide +kernel
theorem dX1_firstLast_20 : decode cX1_firstLast 20 = .ok (.isub, 1) := by decide +kernel
theorem dX1_firstLast_21 : decode cX1_firstLast 21 = .ok (.iaload, 1) := by decide +kernel
theorem dX1_firstLast_22 : decode cX1_firstLast 22 = .ok (.iconst 1, 1) := by decide +kernel
theorem dX1_firstLast_23 : decode cX1_firstLast 23 = .ok (.iadd, 1) := by decide +kernel
theorem dX1_firstLast_24 : decode cX1_firstLast 24 = .ok (.ireturn, 1) := by decide +kernel
theorem dX1_countWords_0 : decode cX1_countWords 0 = .ok (.iconst 0, 1) := by decide +kernel
theorem dX1_countWords_1 : decode cX1_countWords 1 = .ok (.istore_n 1, 1) := by decide +kernel
theorem dX1_countWords_2 : decode cX1_countWords 2 = .ok (.aload_n 0, 1) := by decide +kernel
theorem dX1_countWords_3 : decode cX1_countWords 3 = .ok (.invokevirtual 81, 3) := by decide +kernel
theorem dX1_countWords_6 : decode cX1_countWords 6 = .ok (.istore_n 2, 1) := by decide +kernel
theorem dX1_countWords_7 : decode cX1_countWords 7 = .ok (.iload_n 2, 1) := by decide +kernel
theorem dX1_countWords_8 : decode cX1_countWords 8 = .ok (.aload_n 0, 1) := by decide +kernel
theorem dX1_countWords_9 : decode cX1_countWords 9 = .ok (.getfield 35, 3) := by decide +kernel
theorem dX1_countWords_12 : decode cX1_countWords 12 = .ok (.getfield 53, 3) := by decide +kernel
theorem dX1_countWords_15 : decode cX1_countWords 15 = .ok (.if_icmp .ge 33, 3) := by decide +kernel
theorem dX1_countWords_18 : decode cX1_countWords 18 = .ok (.aload_n 0, 1) := by decide +kernel
theorem dX1_countWords_19 : decode cX1_countWords 19 = .ok (.getfield 35, 3) := by decide +kernel
theorem dX1_countWords_22 : decode cX1_countWords 22 = .ok (.getfield 78, 3) := by decide +kernel
theorem dX1_countWords_25 : decode cX1_countWords 25 = .ok (.iload_n 2, 1) := by decide +kernel
theorem dX1_countWords_26 : decode cX1_countWords 26 = .ok (.iaload, 1) := by decide +kernel
theorem dX1_countWords_27 : decode cX1_countWords 27 = .ok (.aload_n 0, 1) := by decide +kernel
theorem dX1_countWords_28 : decode cX1_countWords 28 = .ok (.getfield 29, 3) := by decide +kernel
theorem dX1_countWords_31 : decode cX1_countWords 31 = .ok (.aload_n 0, 1) := by decide +kernel
theorem dX1_countWords_32 : decode cX1_countWords 32 = .ok (.getfield 50, 3) := by decide +kernel
theorem dX1_countWords_35 : decode cX1_countWords 35 = .ok (.iaload, 1) := by decide +kernel
theorem dX1_countWords_36 : decode cX1_countWords 36 = .ok (.if_icmp .ne 6, 3) := by decide +kernel
theorem dX1_countWords_39 : decode cX1_countWords 39 = .ok (.iinc 1 1, 3) := by decide +kernel
theorem dX1_countWords_42 : decode cX1_countWords 42 = .ok (.iinc 2 1, 3) := by decide +kernel
theorem dX1_countWords_45 : decode cX1_countWords 45 = .ok (.goto (-38), 3) := by decide +kernel
theorem dX1_countWords_48 : decode cX1_countWords 48 = .ok (.iload_n 1, 1) := by decide +kernel
theorem dX1_countWords_49 : decode cX1_countWords 49 = .ok (.ireturn, 1) := by decide +kernel
theorem dX1_countStoppers_0 : decode cX1_countStoppers 0 = .ok (.aload_n 0, 1) := by decide +kernel
theorem dX1_countStoppers_1 : decode cX1_countStoppers 1 = .ok (.iconst 1, 1) := by decide +kernel
theorem dX1_countStoppers_2 : decode cX1_countStoppers 2 = .ok (.aload_n 0, 1) := by decide +kernel
theorem dX1_countStoppers_3 : decode cX1_countStoppers 3 = .ok (.getfield 50, 3) := by decide +kernel
theorem dX1_countStoppers_6 : decode cX1_countStoppers 6 = .ok (.ishl, 1) := by decide +kernel
theorem dX1_countStoppers_7 : decode cX1_countStoppers 7 = .ok (.iconst 1, 1) := by decide +kernel
theorem dX1_countStoppers_8 : decode cX1_countStoppers 8 = .ok (.isub, 1) := by decide +kernel
theorem dX1_countStoppers_9 : decode cX1_countStoppers 9 = .ok (.invokevirtual 84, 3) := by decide +kernel
theorem dX1_countStoppers_12 : decode cX1_countStoppers 12 = .ok (.istore_n 1, 1) := by decide +kernel
theorem dX1_countStoppers_13 : decode cX1_countStoppers 13 = .ok (.iconst 0, 1) := by decide +kernel
theorem dX1_countStoppers_14 : decode cX1_countStoppers 14 = .ok (.istore_n 2, 1) := by decide +kernel
theorem dX1_countStoppers_15 : decode cX1_countStoppers 15 = .ok (.aload_n 0, 1) := by decide +kernel
theorem dX1_countStoppers_16 : decode cX1_countStoppers 16 = .ok (.invokevirtual 81, 3) := by decide +kernel
theorem dX1_countStoppers_19 : decode cX1_countStoppers 19 = .ok (.istore_n 3, 1) := by decide +kernel
theorem dX1_countStoppers_20 : decode cX1_countStoppers 20 = .ok (.iload_n 3, 1) := by decide +kernel
theorem dX1_countStoppers_21 : decode cX1_countStoppers 21 = .ok (.aload_n 0, 1) := by decide +kernel
theorem dX1_countStoppers_22 : decode cX1_countStoppers 22 = .ok (.getfield 35, 3) := by decide +kernel
theorem dX1_countStoppers_25 : decode cX1_countStoppers 25 = .ok (.getfield 53, 3) := by decide +kernel
theorem dX1_countStoppers_28 : decode cX1_countStoppers 28 = .ok (.if_icmp .ge 49, 3) := by decide +kernel
theorem dX1_countStoppers_31 : decode cX1_countStoppers 31 = .ok (.aload_n 0, 1) := by decide +kernel
theorem dX1_countStoppers_32 : decode cX1_countStoppers 32 = .ok (.getfield 35, 3) := by decide +kernel
theorem dX1_countStoppers_35 : decode cX1_countStoppers 35 = .ok (.getfield 78, 3) := by decide +kernel
theorem dX1_countStoppers_38 : decode cX1_countStoppers 38 = .ok (.iload_n 3, 1) := by decide +kernel
theorem dX1_countStoppers_39 : decode cX1_countStoppers 39 = .ok (.iaload, 1) := by decide +kernel
theorem dX1_countStoppers_40 : decode cX1_countStoppers 40 = .ok (.istore 4, 2) := by decide +kernel
theorem dX1_countStoppers_42 : decode cX1_countStoppers 42 = .ok (.iload_n 1, 1) := by decide +kernel
theorem dX1_countStoppers_43 : decode cX1_countStoppers 43 = .ok (.iload 4, 2) := by decide +kernel
theorem dX1_countStoppers_45 : decode cX1_countStoppers 45 = .ok (.iconst (-1), 1) := by decide +kernel
theorem dX1_countStoppers_46 : decode cX1_countStoppers 46 = .ok (.ixor, 1) := by decide +kernel
theorem dX1_countStoppers_47 : decode cX1_countStoppers 47 = .ok (.iand, 1) := by decide +kernel
theorem dX1_countStoppers_48 : decode cX1_countStoppers 48 = .ok (.ifCond .ne 23, 3) := by decide +kernel
theorem dX1_countStoppers_51 : decode cX1_countStoppers 51 = .ok (.iload 4, 2) := by decide +kernel
theorem dX1_countStoppers_53 : decode cX1_countStoppers 53 = .ok (.aload_n 0, 1) := by decide +kernel
theorem dX1_countStoppers_54 : decode cX1_countStoppers 54 = .ok (.getfield 32, 3) := by decide +kernel
theorem dX1_countStoppers_57 : decode cX1_countStoppers 57 = .ok (.aload_n 0, 1) := by decide +kernel
theorem dX1_countStoppers_58 : decode cX1_countStoppers 58 = .ok (.getfield 50, 3) := by decide +kernel
theorem dX1_countStoppers_61 : decode cX1_countStoppers 61 = .ok (.iaload, 1) := by decide +kernel
theorem dX1_countStoppers_62 : decode cX1_countStoppers 62 = .ok (.iconst (-1), 1) := by decide +kernel
theorem dX1_countStoppers_63 : decode cX1_countStoppers 63 = .ok (.ixor, 1) := by decide +kernel
theorem dX1_countStoppers_64 : decode cX1_countStoppers 64 = .ok (.iand, 1) := by decide +kernel
theorem dX1_countStoppers_65 : decode cX1_countStoppers 65 = .ok (.ifCond .ne 6, 3) := by decide +kernel
theorem dX1_countStoppers_68 : decode cX1_countStoppers 68 = .ok (.iinc 2 1, 3) := by decide +kernel
theorem dX1_countStoppers_71 : decode cX1_countStoppers 71 = .ok (.iinc 3 1, 3) := by decide +kernel
theorem dX1_countStoppers_74 : decode cX1_countStoppers 74 = .ok (.goto (-54), 3) := by decide +kernel
theorem dX1_countStoppers_77 : decode cX1_countStoppers 77 = .ok (.iload_n 2, 1) := by decide +kernel
theorem dX1_countStoppers_78 : decode cX1_countStoppers 78 = .ok (.ireturn, 1) := by decide +kernel
theorem dX1_countErasables_0 : decode cX1_countErasables 0 = .ok (.aload_n 0, 1) := by decide +kernel
theorem dX1_countErasables_1 : decode cX1_countErasables 1 = .ok (.iconst 1, 1) := by decide +kernel
theorem dX1_countErasables_2 : decode cX1_countErasables 2 = .ok (.aload_n 0, 1) := by decide +kernel
theorem dX1_countErasables_3 : decode cX1_countErasables 3 = .ok (.getfield 50, 3) := by decide +kernel
theorem dX1_countErasables_6 : decode cX1_countErasables 6 = .ok (.ishl, 1) := by decide +kernel
theorem dX1_countErasables_7 : decode cX1_countErasables 7 = .ok (.iconst 1, 1) := by decide +kernel
theorem dX1_countErasables_8 : decode cX1_countErasables 8 = .ok (.isub, 1) := by decide +kernel
theorem dX1_countErasables_9 : decode cX1_countErasables 9 = .ok (.invokevirtual 88, 3) := by decide +kernel
theorem dX1_countErasables_12 : decode cX1_countErasables 12 = .ok (.ifCond .ne 5, 3) := by decide +kernel
theorem dX1_countErasables_15 : decode cX1_countErasables 15 = .ok (.iconst 0, 1) := by decide +kernel
theorem dX1_countErasables_16 : decode cX1_countErasables 16 = .ok (.ireturn, 1) := by decide +kernel
theorem dX1_countErasables_17 : decode cX1_countErasables 17 = .ok (.iconst 0, 1) := by decide +kernel
theorem dX1_countErasables_18 : decode cX1_countErasables 18 = .ok (.istore_n 1, 1) := by decide +kernel
theorem dX1_countErasables_19 : decode cX1_countErasables 19 = .ok (.aload_n 0, 1) := by decide +kernel
theorem dX1_countErasables_20 : decode cX1_countErasables 20 = .ok (.invokevirtual 81, 3) := by decide +kernel
theorem dX1_countErasables_23 : decode cX1_countErasables 23 = .ok (.istore_n 2, 1) := by decide +kernel
theorem dX1_countErasables_24 : decode cX1_countErasables 24 = .ok (.iload_n 2, 1) := by decide +kernel
theorem dX1_countErasables_25 : decode cX1_countErasables 25 = .ok (.aload_n 0, 1) := by decide +kernel
theorem dX1_countErasables_26 : decode cX1_countErasables 26 = .ok (.getfield 35, 3) := by decide +kernel
theorem dX1_countErasables_29 : decode cX1_countErasables 29 = .ok (.getfield 53, 3) := by decide +kernel
theorem dX1_countErasables_32 : decode cX1_countErasables 32 = .ok (.if_icmp .ge 61, 3) := by decide +kernel
theorem dX1_countErasables_35 : decode cX1_countErasables 35 = .ok (.aload_n 0, 1) := by decide +kernel
theorem dX1_countErasables_36 : decode cX1_countErasables 36 = .ok (.getfield 26, 3) := by decide +kernel
theorem dX1_countErasables_39 : decode cX1_countErasables 39 = .ok (.aload_n 0, 1) := by decide +kernel
theorem dX1_countErasables_40 : decode cX1_countErasables 40 = .ok (.getfield 50, 3) := by decide +kernel
theorem dX1_countErasables_43 : decode cX1_countErasables 43 = .ok (.iload_n 2, 1) := by decide +kernel
theorem dX1_countErasables_44 : decode cX1_countErasables 44 = .ok (.iastore, 1) := by decide +kernel
theorem dX1_countErasables_45 : decode cX1_countErasables 45 = .ok (.aload_n 0, 1) := by decide +kernel
theorem dX1_countErasables_46 : decode cX1_countErasables 46 = .ok (.getfield 35, 3) := by decide +kernel
theorem dX1_countErasables_49 : decode cX1_countErasables 49 = .ok (.getfield 78, 3) := by decide +kernel
theorem dX1_countErasables_52 : decode cX1_countErasables 52 = .ok (.iload_n 2, 1) := by decide +kernel
theorem dX1_countErasables_53 : decode cX1_countErasables 53 = .ok (.iaload, 1) := by decide +kernel
theorem dX1_countErasables_54 : decode cX1_countErasables 54 = .ok (.aload_n 0, 1) := by decide +kernel
theorem dX1_countErasables_55 : decode cX1_countErasables 55 = .ok (.getfield 32, 3) := by decide +kernel
theorem dX1_countErasables_58 : decode cX1_countErasables 58 = .ok (.aload_n 0, 1) := by decide +kernel
theorem dX1_countErasables_59 : decode cX1_countErasables 59 = .ok (.getfield 50, 3) := by decide +kernel
theorem dX1_countErasables_62 : decode cX1_countErasables 62 = .ok (.iaload, 1) := by decide +kernel
theorem dX1_countErasables_63 : decode cX1_countErasables 63 = .ok (.iconst (-1), 1) := by decide +kernel
theorem dX1_countErasables_64 : decode cX1_countErasables 64 = .ok (.ixor, 1) := by decide +kernel
theorem dX1_countErasables_65 : decode cX1_countErasables 65 = .ok (.iand, 1) := by decide +kernel
theorem dX1_countErasables_66 : decode cX1_countErasables 66 = .ok (.ifCond .ne 18, 3) := by decide +kernel
theorem dX1_countErasables_69 : decode cX1_countErasables 69 = .ok (.aload_n 0, 1) := by decide +kernel
theorem dX1_countErasables_70 : decode cX1_countErasables 70 = .ok (.iconst 1, 1) := by decide +kernel
theorem dX1_countErasables_71 : decode cX1_countErasables 71 = .ok (.aload_n 0, 1) := by decide +kernel
theorem dX1_countErasables_72 : decode cX1_countErasables 72 = .ok (.getfield 46, 3) := by decide +kernel
theorem dX1_countErasables_75 : decode cX1_countErasables 75 = .ok (.ishl, 1) := by decide +kernel
theorem dX1_countErasables_76 : decode cX1_countErasables 76 = .ok (.iconst 1, 1) := by decide +kernel
theorem dX1_countErasables_77 : decode cX1_countErasables 77 = .ok (.isub, 1) := by decide +kernel
theorem dX1_countErasables_78 : decode cX1_countErasables 78 = .ok (.invokevirtual 88, 3) := by decide +kernel
theorem dX1_countErasables_81 : decode cX1_countErasables 81 = .ok (.ifCond .eq 6, 3) := by decide +kernel
theorem dX1_countErasables_84 : decode cX1_countErasables 84 = .ok (.iinc 1 1, 3) := by decide +kernel
theorem dX1_countErasables_87 : decode cX1_countErasables 87 = .ok (.iinc 2 1, 3) := by decide +kernel
theorem dX1_countErasables_90 : decode cX1_countErasables 90 = .ok (.goto (-66), 3) := by decide +kernel
theorem dX1_countErasables_93 : decode cX1_countErasables 93 = .ok (.iload_n 1, 1) := by decide +kernel
theorem dX1_countErasables_94 : decode cX1_countErasables 94 = .ok (.ireturn, 1) := by decide +kernel
theorem dX1_peelsAway_0 : decode cX1_peelsAway 0 = .ok (.iload_n 1, 1) := by decide +kernel
theorem dX1_peelsAway_1 : decode cX1_peelsAway 1 = .ok (.istore_n 2, 1) := by decide +kernel
theorem dX1_peelsAway_2 : decode cX1_peelsAway 2 = .ok (.iconst 0, 1) := by decide +kernel
theorem dX1_peelsAway_3 : decode cX1_peelsAway 3 = .ok (.istore_n 3, 1) := by decide +kernel
theorem dX1_peelsAway_4 : decode cX1_peelsAway 4 = .ok (.iload_n 3, 1) := by decide +kernel
theorem dX1_peelsAway_5 : decode cX1_peelsAway 5 = .ok (.aload_n 0, 1) := by decide +kernel
theorem dX1_peelsAway_6 : decode cX1_peelsAway 6 = .ok (.getfield 46, 3) := by decide +kernel
theorem dX1_peelsAway_9 : decode cX1_peelsAway 9 = .ok (.if_icmp .ge 77, 3) := by decide +kernel
theorem dX1_peelsAway_12 : decode cX1_peelsAway 12 = .ok (.iload_n 2, 1) := by decide +kernel
theorem dX1_peelsAway_13 : decode cX1_peelsAway 13 = .ok (.ifCond .eq 73, 3) := by decide +kernel
theorem dX1_peelsAway_16 : decode cX1_peelsAway 16 = .ok (.aload_n 0, 1) := by decide +kernel
theorem dX1_peelsAway_17 : decode cX1_peelsAway 17 = .ok (.iload_n 2, 1) := by decide +kernel
theorem dX1_peelsAway_18 : decode cX1_peelsAway 18 = .ok (.invokevirtual 84, 3) := by decide +kernel
theorem dX1_peelsAway_21 : decode cX1_peelsAway 21 = .ok (.istore 4, 2) := by decide +kernel
theorem dX1_peelsAway_23 : decode cX1_peelsAway 23 = .ok (.iconst 0, 1) := by decide +kernel
theorem dX1_peelsAway_24 : decode cX1_peelsAway 24 = .ok (.istore 5, 2) := by decide +kernel
theorem dX1_peelsAway_26 : decode cX1_peelsAway 26 = .ok (.iload 5, 2) := by decide +kernel
theorem dX1_peelsAway_28 : decode cX1_peelsAway 28 = .ok (.aload_n 0, 1) := by decide +kernel
theorem dX1_peelsAway_29 : decode cX1_peelsAway 29 = .ok (.getfield 46, 3) := by decide +kernel
theorem dX1_peelsAway_32 : decode cX1_peelsAway 32 = .ok (.if_icmp .ge 48, 3) := by decide +kernel
theorem dX1_peelsAway_35 : decode cX1_peelsAway 35 = .ok (.iload_n 2, 1) := by decide +kernel
theorem dX1_peelsAway_36 : decode cX1_peelsAway 36 = .ok (.iload 5, 2) := by decide +kernel
theorem dX1_peelsAway_38 : decode cX1_peelsAway 38 = .ok (.ishr, 1) := by decide +kernel
theorem dX1_peelsAway_39 : decode cX1_peelsAway 39 = .ok (.iconst 1, 1) := by decide +kernel
theorem dX1_peelsAway_40 : decode cX1_peelsAway 40 = .ok (.iand, 1) := by decide +kernel
theorem dX1_peelsAway_41 : decode cX1_peelsAway 41 = .ok (.ifCond .eq 33, 3) := by decide +kernel
theorem dX1_peelsAway_44 : decode cX1_peelsAway 44 = .ok (.aload_n 0, 1) := by decide +kernel
theorem dX1_peelsAway_45 : decode cX1_peelsAway 45 = .ok (.getfield 35, 3) := by decide +kernel
theorem dX1_peelsAway_48 : decode cX1_peelsAway 48 = .ok (.getfield 78, 3) := by decide +kernel
theorem dX1_peelsAway_51 : decode cX1_peelsAway 51 = .ok (.aload_n 0, 1) := by decide +kernel
theorem dX1_peelsAway_52 : decode cX1_peelsAway 52 = .ok (.getfield 26, 3) := by decide +kernel
theorem dX1_peelsAway_55 : decode cX1_peelsAway 55 = .ok (.iload 5, 2) := by decide +kernel
theorem dX1_peelsAway_57 : decode cX1_peelsAway 57 = .ok (.iaload, 1) := by decide +kernel
theorem dX1_peelsAway_58 : decode cX1_peelsAway 58 = .ok (.iaload, 1) := by decide +kernel
theorem dX1_peelsAway_59 : decode cX1_peelsAway 59 = .ok (.iload 4, 2) := by decide +kernel
theorem dX1_peelsAway_61 : decode cX1_peelsAway 61 = .ok (.iand, 1) := by decide +kernel
theorem dX1_peelsAway_62 : decode cX1_peelsAway 62 = .ok (.ifCond .eq 12, 3) := by decide +kernel
theorem dX1_peelsAway_65 : decode cX1_peelsAway 65 = .ok (.iload_n 2, 1) := by decide +kernel
theorem dX1_peelsAway_66 : decode cX1_peelsAway 66 = .ok (.iconst 1, 1) := by decide +kernel
theorem dX1_peelsAway_67 : decode cX1_peelsAway 67 = .ok (.iload 5, 2) := by decide +kernel
theorem dX1_peelsAway_69 : decode cX1_peelsAway 69 = .ok (.ishl, 1) := by decide +kernel
theorem dX1_peelsAway_70 : decode cX1_peelsAway 70 = .ok (.iconst (-1), 1) := by decide +kernel
theorem dX1_peelsAway_71 : decode cX1_peelsAway 71 = .ok (.ixor, 1) := by decide +kernel
theorem dX1_peelsAway_72 : decode cX1_peelsAway 72 = .ok (.iand, 1) := by decide +kernel
theorem dX1_peelsAway_73 : decode cX1_peelsAway 73 = .ok (.istore_n 2, 1) := by decide +kernel
theorem dX1_peelsAway_74 : decode cX1_peelsAway 74 = .ok (.iinc 5 1, 3) := by decide +kernel
theorem dX1_peelsAway_77 : decode cX1_peelsAway 77 = .ok (.goto (-51), 3) := by decide +kernel
theorem dX1_peelsAway_80 : decode cX1_peelsAway 80 = .ok (.iinc 3 1, 3) := by decide +kernel
theorem dX1_peelsAway_83 : decode cX1_peelsAway 83 = .ok (.goto (-79), 3) := by decide +kernel
theorem dX1_peelsAway_86 : decode cX1_peelsAway 86 = .ok (.iload_n 2, 1) := by decide +kernel
theorem dX1_peelsAway_87 : decode cX1_peelsAway 87 = .ok (.ifCond .ne 7, 3) := by decide +kernel
theorem dX1_peelsAway_90 : decode cX1_peelsAway 90 = .ok (.iconst 1, 1) := by decide +kernel
theorem dX1_peelsAway_91 : decode cX1_peelsAway 91 = .ok (.goto 4, 3) := by decide +kernel
theorem dX1_peelsAway_94 : decode cX1_peelsAway 94 = .ok (.iconst 0, 1) := by decide +kernel
theorem dX1_peelsAway_95 : decode cX1_peelsAway 95 = .ok (.ireturn, 1) := by decide +kernel
theorem dX1_justOnce_0 : decode cX1_justOnce 0 = .ok (.iconst 0, 1) := by decide +kernel
theorem dX1_justOnce_1 : decode cX1_justOnce 1 = .ok (.istore_n 2, 1) := by decide +kernel
theorem dX1_justOnce_2 : decode cX1_justOnce 2 = .ok (.iconst 0, 1) := by decide +kernel
theorem dX1_justOnce_3 : decode cX1_justOnce 3 = .ok (.istore_n 3, 1) := by decide +kernel
theorem dX1_justOnce_4 : decode cX1_justOnce 4 = .ok (.iconst 0, 1) := by decide +kernel
theorem dX1_justOnce_5 : decode cX1_justOnce 5 = .ok (.istore 4, 2) := by decide +kernel
theorem dX1_justOnce_7 : decode cX1_justOnce 7 = .ok (.iload 4, 2) := by decide +kernel
theorem dX1_justOnce_9 : decode cX1_justOnce 9 = .ok (.aload_n 0, 1) := by decide +kernel
theorem dX1_justOnce_10 : decode cX1_justOnce 10 = .ok (.getfield 46, 3) := by decide +kernel
theorem dX1_justOnce_13 : decode cX1_justOnce 13 = .ok (.if_icmp .ge 47, 3) := by decide +kernel
theorem dX1_justOnce_16 : decode cX1_justOnce 16 = .ok (.iload_n 1, 1) := by decide +kernel
theorem dX1_justOnce_17 : decode cX1_justOnce 17 = .ok (.iload 4, 2) := by decide +kernel
theorem dX1_justOnce_19 : decode cX1_justOnce 19 = .ok (.ishr, 1) := by decide +kernel
theorem dX1_justOnce_20 : decode cX1_justOnce 20 = .ok (.iconst 1, 1) := by decide +kernel
theorem dX1_justOnce_21 : decode cX1_justOnce 21 = .ok (.iand, 1) := by decide +kernel
theorem dX1_justOnce_22 : decode cX1_justOnce 22 = .ok (.ifCond .eq 32, 3) := by decide +kernel
theorem dX1_justOnce_25 : decode cX1_justOnce 25 = .ok (.aload_n 0, 1) := by decide +kernel
theorem dX1_justOnce_26 : decode cX1_justOnce 26 = .ok (.getfield 35, 3) := by decide +kernel
theorem dX1_justOnce_29 : decode cX1_justOnce 29 = .ok (.getfield 78, 3) := by decide +kernel
theorem dX1_justOnce_32 : decode cX1_justOnce 32 = .ok (.aload_n 0, 1) := by decide +kernel
theorem dX1_justOnce_33 : decode cX1_justOnce 33 = .ok (.getfield 26, 3) := by decide +kernel
theorem dX1_justOnce_36 : decode cX1_justOnce 36 = .ok (.iload 4, 2) := by decide +kernel
theorem dX1_justOnce_38 : decode cX1_justOnce 38 = .ok (.iaload, 1) := by decide +kernel
theorem dX1_justOnce_39 : decode cX1_justOnce 39 = .ok (.iaload, 1) := by decide +kernel
theorem dX1_justOnce_40 : decode cX1_justOnce 40 = .ok (.istore 5, 2) := by decide +kernel
theorem dX1_justOnce_42 : decode cX1_justOnce 42 = .ok (.iload_n 3, 1) := by decide +kernel
theorem dX1_justOnce_43 : decode cX1_justOnce 43 = .ok (.iload_n 2, 1) := by decide +kernel
theorem dX1_justOnce_44 : decode cX1_justOnce 44 = .ok (.iload 5, 2) := by decide +kernel
theorem dX1_justOnce_46 : decode cX1_justOnce 46 = .ok (.iand, 1) := by decide +kernel
theorem dX1_justOnce_47 : decode cX1_justOnce 47 = .ok (.ior, 1) := by decide +kernel
theorem dX1_justOnce_48 : decode cX1_justOnce 48 = .ok (.istore_n 3, 1) := by decide +kernel
theorem dX1_justOnce_49 : decode cX1_justOnce 49 = .ok (.iload_n 2, 1) := by decide +kernel
theorem dX1_justOnce_50 : decode cX1_justOnce 50 = .ok (.iload 5, 2) := by decide +kernel
theorem dX1_justOnce_52 : decode cX1_justOnce 52 = .ok (.ior, 1) := by decide +kernel
theorem dX1_justOnce_53 : decode cX1_justOnce 53 = .ok (.istore_n 2, 1) := by decide +kernel
theorem dX1_justOnce_54 : decode cX1_justOnce 54 = .ok (.iinc 4 1, 3) := by decide +kernel
theorem dX1_justOnce_57 : decode cX1_justOnce 57 = .ok (.goto (-50), 3) := by decide +kernel
theorem dX1_justOnce_60 : decode cX1_justOnce 60 = .ok (.iload_n 2, 1) := by decide +kernel
theorem dX1_justOnce_61 : decode cX1_justOnce 61 = .ok (.iload_n 3, 1) := by decide +kernel
theorem dX1_justOnce_62 : decode cX1_justOnce 62 = .ok (.iconst (-1), 1) := by decide +kernel
theorem dX1_justOnce_63 : decode cX1_justOnce 63 = .ok (.ixor, 1) := by decide +kernel
theorem dX1_justOnce_64 : decode cX1_justOnce 64 = .ok (.iand, 1) := by decide +kernel
theorem dX1_justOnce_65 : decode cX1_justOnce 65 = .ok (.ireturn, 1) := by decide +kernel
theorem dX1_countKnots_0 : decode cX1_countKnots 0 = .ok (.aload_n 0, 1) := by decide +kernel
theorem dX1_countKnots_1 : decode cX1_countKnots 1 = .ok (.getfield 29, 3) := by decide +kernel
theorem dX1_countKnots_4 : decode cX1_countKnots 4 = .ok (.aload_n 0, 1) := by decide +kernel
theorem dX1_countKnots_5 : decode cX1_countKnots 5 = .ok (.getfield 50, 3) := by decide +kernel
theorem dX1_countKnots_8 : decode cX1_countKnots 8 = .ok (.iaload, 1) := by decide +kernel
theorem dX1_countKnots_9 : decode cX1_countKnots 9 = .ok (.istore_n 1, 1) := by decide +kernel
theorem dX1_countKnots_10 : decode cX1_countKnots 10 = .ok (.iconst 0, 1) := by decide +kernel
theorem dX1_countKnots_11 : decode cX1_countKnots 11 = .ok (.istore_n 2, 1) := by decide +kernel
theorem dX1_countKnots_12 : decode cX1_countKnots 12 = .ok (.aload_n 0, 1) := by decide +kernel
theorem dX1_countKnots_13 : decode cX1_countKnots 13 = .ok (.invokevirtual 81, 3) := by decide +kernel
theorem dX1_countKnots_16 : decode cX1_countKnots 16 = .ok (.istore_n 3, 1) := by decide +kernel
theorem dX1_countKnots_17 : decode cX1_countKnots 17 = .ok (.iload_n 3, 1) := by decide +kernel
theorem dX1_countKnots_18 : decode cX1_countKnots 18 = .ok (.aload_n 0, 1) := by decide +kernel
theorem dX1_countKnots_19 : decode cX1_countKnots 19 = .ok (.getfield 35, 3) := by decide +kernel
theorem dX1_countKnots_22 : decode cX1_countKnots 22 = .ok (.getfield 53, 3) := by decide +kernel
theorem dX1_countKnots_25 : decode cX1_countKnots 25 = .ok (.if_icmp .ge 89, 3) := by decide +kernel
theorem dX1_countKnots_28 : decode cX1_countKnots 28 = .ok (.aload_n 0, 1) := by decide +kernel
theorem dX1_countKnots_29 : decode cX1_countKnots 29 = .ok (.getfield 35, 3) := by decide +kernel
theorem dX1_countKnots_32 : decode cX1_countKnots 32 = .ok (.getfield 78, 3) := by decide +kernel
theorem dX1_countKnots_35 : decode cX1_countKnots 35 = .ok (.iload_n 3, 1) := by decide +kernel
theorem dX1_countKnots_36 : decode cX1_countKnots 36 = .ok (.iaload, 1) := by decide +kernel
theorem dX1_countKnots_37 : decode cX1_countKnots 37 = .ok (.istore 4, 2) := by decide +kernel
theorem dX1_countKnots_39 : decode cX1_countKnots 39 = .ok (.iload 4, 2) := by decide +kernel
theorem dX1_countKnots_41 : decode cX1_countKnots 41 = .ok (.iload_n 1, 1) := by decide +kernel
theorem dX1_countKnots_42 : decode cX1_countKnots 42 = .ok (.iload 4, 2) := by decide +kernel
theorem dX1_countKnots_44 : decode cX1_countKnots 44 = .ok (.ixor, 1) := by decide +kernel
theorem dX1_countKnots_45 : decode cX1_countKnots 45 = .ok (.iand, 1) := by decide +kernel
theorem dX1_countKnots_46 : decode cX1_countKnots 46 = .ok (.istore 5, 2) := by decide +kernel
theorem dX1_countKnots_48 : decode cX1_countKnots 48 = .ok (.iload 5, 2) := by decide +kernel
theorem dX1_countKnots_50 : decode cX1_countKnots 50 = .ok (.iload 5, 2) := by decide +kernel
theorem dX1_countKnots_52 : decode cX1_countKnots 52 = .ok (.iconst 1, 1) := by decide +kernel
theorem dX1_countKnots_53 : decode cX1_countKnots 53 = .ok (.isub, 1) := by decide +kernel
theorem dX1_countKnots_54 : decode cX1_countKnots 54 = .ok (.iand, 1) := by decide +kernel
theorem dX1_countKnots_55 : decode cX1_countKnots 55 = .ok (.ifCond .ne 53, 3) := by decide +kernel
theorem dX1_countKnots_58 : decode cX1_countKnots 58 = .ok (.aload_n 0, 1) := by decide +kernel
theorem dX1_countKnots_59 : decode cX1_countKnots 59 = .ok (.getfield 35, 3) := by decide +kernel
theorem dX1_countKnots_62 : decode cX1_countKnots 62 = .ok (.iload_n 3, 1) := by decide +kernel
theorem dX1_countKnots_63 : decode cX1_countKnots 63 = .ok (.iload_n 1, 1) := by decide +kernel
theorem dX1_countKnots_64 : decode cX1_countKnots 64 = .ok (.iload 4, 2) := by decide +kernel
theorem dX1_countKnots_66 : decode cX1_countKnots 66 = .ok (.ixor, 1) := by decide +kernel
theorem dX1_countKnots_67 : decode cX1_countKnots 67 = .ok (.invokevirtual 92, 3) := by decide +kernel
theorem dX1_countKnots_70 : decode cX1_countKnots 70 = .ok (.ifCond .eq 38, 3) := by decide +kernel
theorem dX1_countKnots_73 : decode cX1_countKnots 73 = .ok (.aload_n 0, 1) := by decide +kernel
theorem dX1_countKnots_74 : decode cX1_countKnots 74 = .ok (.iload_n 1, 1) := by decide +kernel
theorem dX1_countKnots_75 : decode cX1_countKnots 75 = .ok (.iload 4, 2) := by decide +kernel
theorem dX1_countKnots_77 : decode cX1_countKnots 77 = .ok (.ixor, 1) := by decide +kernel
theorem dX1_countKnots_78 : decode cX1_countKnots 78 = .ok (.invokevirtual 96, 3) := by decide +kernel
theorem dX1_countKnots_81 : decode cX1_countKnots 81 = .ok (.ifCond .eq 27, 3) := by decide +kernel
theorem dX1_countKnots_84 : decode cX1_countKnots 84 = .ok (.aload_n 0, 1) := by decide +kernel
theorem dX1_countKnots_85 : decode cX1_countKnots 85 = .ok (.getfield 26, 3) := by decide +kernel
theorem dX1_countKnots_88 : decode cX1_countKnots 88 = .ok (.aload_n 0, 1) := by decide +kernel
theorem dX1_countKnots_89 : decode cX1_countKnots 89 = .ok (.getfield 50, 3) := by decide +kernel
theorem dX1_countKnots_92 : decode cX1_countKnots 92 = .ok (.iload_n 3, 1) := by decide +kernel
theorem dX1_countKnots_93 : decode cX1_countKnots 93 = .ok (.iastore, 1) := by decide +kernel
theorem dX1_countKnots_94 : decode cX1_countKnots 94 = .ok (.aload_n 0, 1) := by decide +kernel
theorem dX1_countKnots_95 : decode cX1_countKnots 95 = .ok (.invokevirtual 99, 3) := by decide +kernel
theorem dX1_countKnots_98 : decode cX1_countKnots 98 = .ok (.ifCond .ne 10, 3) := by decide +kernel
theorem dX1_countKnots_101 : decode cX1_countKnots 101 = .ok (.aload_n 0, 1) := by decide +kernel
theorem dX1_countKnots_102 : decode cX1_countKnots 102 = .ok (.invokevirtual 102, 3) := by decide +kernel
theorem dX1_countKnots_105 : decode cX1_countKnots 105 = .ok (.iinc 2 1, 3) := by decide +kernel
theorem dX1_countKnots_108 : decode cX1_countKnots 108 = .ok (.iinc 3 1, 3) := by decide +kernel
theorem dX1_countKnots_111 : decode cX1_countKnots 111 = .ok (.goto (-94), 3) := by decide +kernel
theorem dX1_countKnots_114 : decode cX1_countKnots 114 = .ok (.iload_n 2, 1) := by decide +kernel
theorem dX1_countKnots_115 : decode cX1_countKnots 115 = .ok (.ireturn, 1) := by decide +kernel
theorem dX1_areHeldBy_0 : decode cX1_areHeldBy 0 = .ok (.iconst 0, 1) := by decide +kernel
theorem dX1_areHeldBy_1 : decode cX1_areHeldBy 1 = .ok (.istore_n 2, 1) := by decide +kernel
theorem dX1_areHeldBy_2 : decode cX1_areHeldBy 2 = .ok (.iload_n 2, 1) := by decide +kernel
theorem dX1_areHeldBy_3 : decode cX1_areHeldBy 3 = .ok (.aload_n 0, 1) := by decide +kernel
theorem dX1_areHeldBy_4 : decode cX1_areHeldBy 4 = .ok (.getfield 50, 3) := by decide +kernel
theorem dX1_areHeldBy_7 : decode cX1_areHeldBy 7 = .ok (.if_icmp .ge 28, 3) := by decide +kernel
theorem dX1_areHeldBy_10 : decode cX1_areHeldBy 10 = .ok (.aload_n 0, 1) := by decide +kernel
theorem dX1_areHeldBy_11 : decode cX1_areHeldBy 11 = .ok (.getfield 35, 3) := by decide +kernel
theorem dX1_areHeldBy_14 : decode cX1_areHeldBy 14 = .ok (.aload_n 0, 1) := by decide +kernel
theorem dX1_areHeldBy_15 : decode cX1_areHeldBy 15 = .ok (.getfield 26, 3) := by decide +kernel
theorem dX1_areHeldBy_18 : decode cX1_areHeldBy 18 = .ok (.iload_n 2, 1) := by decide +kernel
theorem dX1_areHeldBy_19 : decode cX1_areHeldBy 19 = .ok (.iaload, 1) := by decide +kernel
theorem dX1_areHeldBy_20 : decode cX1_areHeldBy 20 = .ok (.iload_n 1, 1) := by decide +kernel
theorem dX1_areHeldBy_21 : decode cX1_areHeldBy 21 = .ok (.invokevirtual 92, 3) := by decide +kernel
theorem dX1_areHeldBy_24 : decode cX1_areHeldBy 24 = .ok (.ifCond .ne 5, 3) := by decide +kernel
theorem dX1_areHeldBy_27 : decode cX1_areHeldBy 27 = .ok (.iconst 0, 1) := by decide +kernel
theorem dX1_areHeldBy_28 : decode cX1_areHeldBy 28 = .ok (.ireturn, 1) := by decide +kernel
theorem dX1_areHeldBy_29 : decode cX1_areHeldBy 29 = .ok (.iinc 2 1, 3) := by decide +kernel
theorem dX1_areHeldBy_32 : decode cX1_areHeldBy 32 = .ok (.goto (-30), 3) := by decide +kernel
theorem dX1_areHeldBy_35 : decode cX1_areHeldBy 35 = .ok (.iconst 1, 1) := by decide +kernel
theorem dX1_areHeldBy_36 : decode cX1_areHeldBy 36 = .ok (.ireturn, 1) := by decide +kernel
theorem dX1_anySmallerKnot_0 : decode cX1_anySmallerKnot 0 = .ok (.iconst 1, 1) := by decide +kernel
theorem dX1_anySmallerKnot_1 : decode cX1_anySmallerKnot 1 = .ok (.aload_n 0, 1) := by decide +kernel
theorem dX1_anySmallerKnot_2 : decode cX1_anySmallerKnot 2 = .ok (.getfield 46, 3) := by decide +kernel
theorem dX1_anySmallerKnot_5 : decode cX1_anySmallerKnot 5 = .ok (.ishl, 1) := by decide +kernel
theorem dX1_anySmallerKnot_6 : decode cX1_anySmallerKnot 6 = .ok (.iconst 1, 1) := by decide +kernel
theorem dX1_anySmallerKnot_7 : decode cX1_anySmallerKnot 7 = .ok (.isub, 1) := by decide +kernel
theorem dX1_anySmallerKnot_8 : decode cX1_anySmallerKnot 8 = .ok (.istore_n 1, 1) := by decide +kernel
theorem dX1_anySmallerKnot_9 : decode cX1_anySmallerKnot 9 = .ok (.iconst 1, 1) := by decide +kernel
theorem dX1_anySmallerKnot_10 : decode cX1_anySmallerKnot 10 = .ok (.istore_n 2, 1) := by decide +kernel
theorem dX1_anySmallerKnot_11 : decode cX1_anySmallerKnot 11 = .ok (.iload_n 2, 1) := by decide +kernel
theorem dX1_anySmallerKnot_12 : decode cX1_anySmallerKnot 12 = .ok (.iload_n 1, 1) := by decide +kernel
theorem dX1_anySmallerKnot_13 : decode cX1_anySmallerKnot 13 = .ok (.if_icmp .ge 19, 3) := by decide +kernel
theorem dX1_anySmallerKnot_16 : decode cX1_anySmallerKnot 16 = .ok (.aload_n 0, 1) := by decide +kernel
theorem dX1_anySmallerKnot_17 : decode cX1_anySmallerKnot 17 = .ok (.iload_n 2, 1) := by decide +kernel
theorem dX1_anySmallerKnot_18 : decode cX1_anySmallerKnot 18 = .ok (.invokevirtual 105, 3) := by decide +kernel
theorem dX1_anySmallerKnot_21 : decode cX1_anySmallerKnot 21 = .ok (.ifCond .eq 5, 3) := by decide +kernel
theorem dX1_anySmallerKnot_24 : decode cX1_anySmallerKnot 24 = .ok (.iconst 1, 1) := by decide +kernel
theorem dX1_anySmallerKnot_25 : decode cX1_anySmallerKnot 25 = .ok (.ireturn, 1) := by decide +kernel
theorem dX1_anySmallerKnot_26 : decode cX1_anySmallerKnot 26 = .ok (.iinc 2 1, 3) := by decide +kernel
theorem dX1_anySmallerKnot_29 : decode cX1_anySmallerKnot 29 = .ok (.goto (-18), 3) := by decide +kernel
theorem dX1_anySmallerKnot_32 : decode cX1_anySmallerKnot 32 = .ok (.iconst 0, 1) := by decide +kernel
theorem dX1_anySmallerKnot_33 : decode cX1_anySmallerKnot 33 = .ok (.ireturn, 1) := by decide +kernel
theorem dX1_isKnot_0 : decode cX1_isKnot 0 = .ok (.iconst 0, 1) := by decide +kernel
theorem dX1_isKnot_1 : decode cX1_isKnot 1 = .ok (.istore_n 2, 1) := by decide +kernel
theorem dX1_isKnot_2 : decode cX1_isKnot 2 = .ok (.iconst 0, 1) := by decide +kernel
theorem dX1_isKnot_3 : decode cX1_isKnot 3 = .ok (.istore_n 3, 1) := by decide +kernel
theorem dX1_isKnot_4 : decode cX1_isKnot 4 = .ok (.iload_n 3, 1) := by decide +kernel
theorem dX1_isKnot_5 : decode cX1_isKnot 5 = .ok (.aload_n 0, 1) := by decide +kernel
theorem dX1_isKnot_6 : decode cX1_isKnot 6 = .ok (.getfield 46, 3) := by decide +kernel
theorem dX1_isKnot_9 : decode cX1_isKnot 9 = .ok (.if_icmp .ge 34, 3) := by decide +kernel
theorem dX1_isKnot_12 : decode cX1_isKnot 12 = .ok (.iload_n 1, 1) := by decide +kernel
theorem dX1_isKnot_13 : decode cX1_isKnot 13 = .ok (.iload_n 3, 1) := by decide +kernel
theorem dX1_isKnot_14 : decode cX1_isKnot 14 = .ok (.ishr, 1) := by decide +kernel
theorem dX1_isKnot_15 : decode cX1_isKnot 15 = .ok (.iconst 1, 1) := by decide +kernel
theorem dX1_isKnot_16 : decode cX1_isKnot 16 = .ok (.iand, 1) := by decide +kernel
theorem dX1_isKnot_17 : decode cX1_isKnot 17 = .ok (.ifCond .eq 20, 3) := by decide +kernel
theorem dX1_isKnot_20 : decode cX1_isKnot 20 = .ok (.iload_n 2, 1) := by decide +kernel
theorem dX1_isKnot_21 : decode cX1_isKnot 21 = .ok (.aload_n 0, 1) := by decide +kernel
theorem dX1_isKnot_22 : decode cX1_isKnot 22 = .ok (.getfield 35, 3) := by decide +kernel
theorem dX1_isKnot_25 : decode cX1_isKnot 25 = .ok (.getfield 78, 3) := by decide +kernel
theorem dX1_isKnot_28 : decode cX1_isKnot 28 = .ok (.aload_n 0, 1) := by decide +kernel
theorem dX1_isKnot_29 : decode cX1_isKnot 29 = .ok (.getfield 26, 3) := by decide +kernel
theorem dX1_isKnot_32 : decode cX1_isKnot 32 = .ok (.iload_n 3, 1) := by decide +kernel
theorem dX1_isKnot_33 : decode cX1_isKnot 33 = .ok (.iaload, 1) := by decide +kernel
theorem dX1_isKnot_34 : decode cX1_isKnot 34 = .ok (.iaload, 1) := by decide +kernel
theorem dX1_isKnot_35 : decode cX1_isKnot 35 = .ok (.ixor, 1) := by decide +kernel
theorem dX1_isKnot_36 : decode cX1_isKnot 36 = .ok (.istore_n 2, 1) := by decide +kernel
theorem dX1_isKnot_37 : decode cX1_isKnot 37 = .ok (.iinc 3 1, 3) := by decide +kernel
theorem dX1_isKnot_40 : decode cX1_isKnot 40 = .ok (.goto (-36), 3) := by decide +kernel
theorem dX1_isKnot_43 : decode cX1_isKnot 43 = .ok (.iconst 0, 1) := by decide +kernel
theorem dX1_isKnot_44 : decode cX1_isKnot 44 = .ok (.istore_n 3, 1) := by decide +kernel
theorem dX1_isKnot_45 : decode cX1_isKnot 45 = .ok (.iload_n 3, 1) := by decide +kernel
theorem dX1_isKnot_46 : decode cX1_isKnot 46 = .ok (.aload_n 0, 1) := by decide +kernel
theorem dX1_isKnot_47 : decode cX1_isKnot 47 = .ok (.getfield 46, 3) := by decide +kernel
theorem dX1_isKnot_50 : decode cX1_isKnot 50 = .ok (.if_icmp .ge 36, 3) := by decide +kernel
theorem dX1_isKnot_53 : decode cX1_isKnot 53 = .ok (.iload_n 1, 1) := by decide +kernel
theorem dX1_isKnot_54 : decode cX1_isKnot 54 = .ok (.iload_n 3, 1) := by decide +kernel
theorem dX1_isKnot_55 : decode cX1_isKnot 55 = .ok (.ishr, 1) := by decide +kernel
theorem dX1_isKnot_56 : decode cX1_isKnot 56 = .ok (.iconst 1, 1) := by decide +kernel
theorem dX1_isKnot_57 : decode cX1_isKnot 57 = .ok (.iand, 1) := by decide +kernel
theorem dX1_isKnot_58 : decode cX1_isKnot 58 = .ok (.ifCond .eq 22, 3) := by decide +kernel
theorem dX1_isKnot_61 : decode cX1_isKnot 61 = .ok (.aload_n 0, 1) := by decide +kernel
theorem dX1_isKnot_62 : decode cX1_isKnot 62 = .ok (.getfield 35, 3) := by decide +kernel
theorem dX1_isKnot_65 : decode cX1_isKnot 65 = .ok (.aload_n 0, 1) := by decide +kernel
theorem dX1_isKnot_66 : decode cX1_isKnot 66 = .ok (.getfield 26, 3) := by decide +kernel
theorem dX1_isKnot_69 : decode cX1_isKnot 69 = .ok (.iload_n 3, 1) := by decide +kernel
theorem dX1_isKnot_70 : decode cX1_isKnot 70 = .ok (.iaload, 1) := by decide +kernel
theorem dX1_isKnot_71 : decode cX1_isKnot 71 = .ok (.iload_n 2, 1) := by decide +kernel
theorem dX1_isKnot_72 : decode cX1_isKnot 72 = .ok (.invokevirtual 92, 3) := by decide +kernel
theorem dX1_isKnot_75 : decode cX1_isKnot 75 = .ok (.ifCond .ne 5, 3) := by decide +kernel
theorem dX1_isKnot_78 : decode cX1_isKnot 78 = .ok (.iconst 0, 1) := by decide +kernel
theorem dX1_isKnot_79 : decode cX1_isKnot 79 = .ok (.ireturn, 1) := by decide +kernel
theorem dX1_isKnot_80 : decode cX1_isKnot 80 = .ok (.iinc 3 1, 3) := by decide +kernel
theorem dX1_isKnot_83 : decode cX1_isKnot 83 = .ok (.goto (-38), 3) := by decide +kernel
theorem dX1_isKnot_86 : decode cX1_isKnot 86 = .ok (.iconst 1, 1) := by decide +kernel
theorem dX1_isKnot_87 : decode cX1_isKnot 87 = .ok (.ireturn, 1) := by decide +kernel
theorem dX1_list_0 : decode cX1_list 0 = .ok (.aload_n 0, 1) := by decide +kernel
theorem dX1_list_1 : decode cX1_list 1 = .ok (.getfield 22, 3) := by decide +kernel
theorem dX1_list_4 : decode cX1_list 4 = .ok (.aload_n 0, 1) := by decide +kernel
theorem dX1_list_5 : decode cX1_list 5 = .ok (.getfield 46, 3) := by decide +kernel
theorem dX1_list_8 : decode cX1_list 8 = .ok (.iaload, 1) := by decide +kernel
theorem dX1_list_9 : decode cX1_list 9 = .ok (.istore_n 1, 1) := by decide +kernel
theorem dX1_list_10 : decode cX1_list 10 = .ok (.iload_n 1, 1) := by decide +kernel
theorem dX1_list_11 : decode cX1_list 11 = .ok (.aload_n 0, 1) := by decide +kernel
theorem dX1_list_12 : decode cX1_list 12 = .ok (.getfield 19, 3) := by decide +kernel
theorem dX1_list_15 : decode cX1_list 15 = .ok (.aload_n 0, 1) := by decide +kernel
theorem dX1_list_16 : decode cX1_list 16 = .ok (.getfield 46, 3) := by decide +kernel
theorem dX1_list_19 : decode cX1_list 19 = .ok (.aaload, 1) := by decide +kernel
theorem dX1_list_20 : decode cX1_list 20 = .ok (.arraylength, 1) := by decide +kernel
theorem dX1_list_21 : decode cX1_list 21 = .ok (.if_icmp .lt 29, 3) := by decide +kernel
theorem dX1_list_24 : decode cX1_list 24 = .ok (.aload_n 0, 1) := by decide +kernel
theorem dX1_list_25 : decode cX1_list 25 = .ok (.getfield 19, 3) := by decide +kernel
theorem dX1_list_28 : decode cX1_list 28 = .ok (.aload_n 0, 1) := by decide +kernel
theorem dX1_list_29 : decode cX1_list 29 = .ok (.getfield 46, 3) := by decide +kernel
theorem dX1_list_32 : decode cX1_list 32 = .ok (.aload_n 0, 1) := by decide +kernel
theorem dX1_list_33 : decode cX1_list 33 = .ok (.getfield 19, 3) := by decide +kernel
theorem dX1_list_36 : decode cX1_list 36 = .ok (.aload_n 0, 1) := by decide +kernel
theorem dX1_list_37 : decode cX1_list 37 = .ok (.getfield 46, 3) := by decide +kernel
theorem dX1_list_40 : decode cX1_list 40 = .ok (.aaload, 1) := by decide +kernel
theorem dX1_list_41 : decode cX1_list 41 = .ok (.iconst 2, 1) := by decide +kernel
theorem dX1_list_42 : decode cX1_list 42 = .ok (.iload_n 1, 1) := by decide +kernel
theorem dX1_list_43 : decode cX1_list 43 = .ok (.imul, 1) := by decide +kernel
theorem dX1_list_44 : decode cX1_list 44 = .ok (.iconst 1, 1) := by decide +kernel
theorem dX1_list_45 : decode cX1_list 45 = .ok (.iadd, 1) := by decide +kernel
theorem dX1_list_46 : decode cX1_list 46 = .ok (.invokestatic 108, 3) := by decide +kernel
theorem dX1_list_49 : decode cX1_list 49 = .ok (.aastore, 1) := by decide +kernel
theorem dX1_list_50 : decode cX1_list 50 = .ok (.lconst 0, 1) := by decide +kernel
theorem dX1_list_51 : decode cX1_list 51 = .ok (.lstore_n 2, 1) := by decide +kernel
theorem dX1_list_52 : decode cX1_list 52 = .ok (.iconst 0, 1) := by decide +kernel
theorem dX1_list_53 : decode cX1_list 53 = .ok (.istore 4, 2) := by decide +kernel
theorem dX1_list_55 : decode cX1_list 55 = .ok (.iload 4, 2) := by decide +kernel
theorem dX1_list_57 : decode cX1_list 57 = .ok (.aload_n 0, 1) := by decide +kernel
theorem dX1_list_58 : decode cX1_list 58 = .ok (.getfield 46, 3) := by decide +kernel
theorem dX1_list_61 : decode cX1_list 61 = .ok (.if_icmp .ge 21, 3) := by decide +kernel
theorem dX1_list_64 : decode cX1_list 64 = .ok (.lload_n 2, 1) := by decide +kernel
theorem dX1_list_65 : decode cX1_list 65 = .ok (.lconst 1, 1) := by decide +kernel
theorem dX1_list_66 : decode cX1_list 66 = .ok (.aload_n 0, 1) := by decide +kernel
theorem dX1_list_67 : decode cX1_list 67 = .ok (.getfield 26, 3) := by decide +kernel
theorem dX1_list_70 : decode cX1_list 70 = .ok (.iload 4, 2) := by decide +kernel
theorem dX1_list_72 : decode cX1_list 72 = .ok (.iaload, 1) := by decide +kernel
theorem dX1_list_73 : decode cX1_list 73 = .ok (.lshl, 1) := by decide +kernel
theorem dX1_list_74 : decode cX1_list 74 = .ok (.lor, 1) := by decide +kernel
theorem dX1_list_75 : decode cX1_list 75 = .ok (.lstore_n 2, 1) := by decide +kernel
theorem dX1_list_76 : decode cX1_list 76 = .ok (.iinc 4 1, 3) := by decide +kernel
theorem dX1_list_79 : decode cX1_list 79 = .ok (.goto (-24), 3) := by decide +kernel
theorem dX1_list_82 : decode cX1_list 82 = .ok (.aload_n 0, 1) := by decide +kernel
theorem dX1_list_83 : decode cX1_list 83 = .ok (.getfield 19, 3) := by decide +kernel
theorem dX1_list_86 : decode cX1_list 86 = .ok (.aload_n 0, 1) := by decide +kernel
theorem dX1_list_87 : decode cX1_list 87 = .ok (.getfield 46, 3) := by decide +kernel
theorem dX1_list_90 : decode cX1_list 90 = .ok (.aaload, 1) := by decide +kernel
theorem dX1_list_91 : decode cX1_list 91 = .ok (.iload_n 1, 1) := by decide +kernel
theorem dX1_list_92 : decode cX1_list 92 = .ok (.lload_n 2, 1) := by decide +kernel
theorem dX1_list_93 : decode cX1_list 93 = .ok (.lastore, 1) := by decide +kernel
theorem dX1_list_94 : decode cX1_list 94 = .ok (.aload_n 0, 1) := by decide +kernel
theorem dX1_list_95 : decode cX1_list 95 = .ok (.getfield 22, 3) := by decide +kernel
theorem dX1_list_98 : decode cX1_list 98 = .ok (.aload_n 0, 1) := by decide +kernel
theorem dX1_list_99 : decode cX1_list 99 = .ok (.getfield 46, 3) := by decide +kernel
theorem dX1_list_102 : decode cX1_list 102 = .ok (.dup2, 1) := by decide +kernel
theorem dX1_list_103 : decode cX1_list 103 = .ok (.iaload, 1) := by decide +kernel
theorem dX1_list_104 : decode cX1_list 104 = .ok (.iconst 1, 1) := by decide +kernel
theorem dX1_list_105 : decode cX1_list 105 = .ok (.iadd, 1) := by decide +kernel
theorem dX1_list_106 : decode cX1_list 106 = .ok (.iastore, 1) := by decide +kernel
theorem dX1_list_107 : decode cX1_list 107 = .ok (.return_, 1) := by decide +kernel
theorem dX2_init_0 : decode cX2_init 0 = .ok (.aload_n 0, 1) := by decide +kernel
theorem dX2_init_1 : decode cX2_init 1 = .ok (.invokespecial 3, 3) := by decide +kernel
theorem dX2_init_4 : decode cX2_init 4 = .ok (.aload_n 0, 1) := by decide +kernel
theorem dX2_init_5 : decode cX2_init 5 = .ok (.iload_n 1, 1) := by decide +kernel
theorem dX2_init_6 : decode cX2_init 6 = .ok (.putfield 9, 3) := by decide +kernel
theorem dX2_init_9 : decode cX2_init 9 = .ok (.aload_n 0, 1) := by decide +kernel
theorem dX2_init_10 : decode cX2_init 10 = .ok (.iload_n 2, 1) := by decide +kernel
theorem dX2_init_11 : decode cX2_init 11 = .ok (.putfield 15, 3) := by decide +kernel
theorem dX2_init_14 : decode cX2_init 14 = .ok (.aload_n 0, 1) := by decide +kernel
theorem dX2_init_15 : decode cX2_init 15 = .ok (.iload_n 3, 1) := by decide +kernel
theorem dX2_init_16 : decode cX2_init 16 = .ok (.putfield 18, 3) := by decide +kernel
theorem dX2_init_19 : decode cX2_init 19 = .ok (.aload_n 0, 1) := by decide +kernel
theorem dX2_init_20 : decode cX2_init 20 = .ok (.iload 4, 2) := by decide +kernel
theorem dX2_init_22 : decode cX2_init 22 = .ok (.putfield 21, 3) := by decide +kernel
theorem dX2_init_25 : decode cX2_init 25 = .ok (.aload_n 0, 1) := by decide +kernel
theorem dX2_init_26 : decode cX2_init 26 = .ok (.iload 5, 2) := by decide +kernel
theorem dX2_init_28 : decode cX2_init 28 = .ok (.putfield 24, 3) := by decide +kernel
theorem dX2_init_31 : decode cX2_init 31 = .ok (.aload_n 0, 1) := by decide +kernel
theorem dX2_init_32 : decode cX2_init 32 = .ok (.aload 6, 2) := by decide +kernel
theorem dX2_init_34 : decode cX2_init 34 = .ok (.putfield 27, 3) := by decide +kernel
theorem dX2_init_37 : decode cX2_init 37 = .ok (.aload_n 0, 1) := by decide +kernel
theorem dX2_init_38 : decode cX2_init 38 = .ok (.iload_n 1, 1) := by decide +kernel
theorem dX2_init_39 : decode cX2_init 39 = .ok (.iload_n 3, 1) := by decide +kernel
theorem dX2_init_40 : decode cX2_init 40 = .ok (.imul, 1) := by decide +kernel
theorem dX2_init_41 : decode cX2_init 41 = .ok (.putfield 31, 3) := by decide +kernel
theorem dX2_init_44 : decode cX2_init 44 = .ok (.aload_n 0, 1) := by decide +kernel
theorem dX2_init_45 : decode cX2_init 45 = .ok (.iload_n 1, 1) := by decide +kernel
theorem dX2_init_46 : decode cX2_init 46 = .ok (.iload_n 2, 1) := by decide +kernel
theorem dX2_init_47 : decode cX2_init 47 = .ok (.imul, 1) := by decide +kernel
theorem dX2_init_48 : decode cX2_init 48 = .ok (.putfield 34, 3) := by decide +kernel
theorem dX2_init_51 : decode cX2_init 51 = .ok (.aload_n 0, 1) := by decide +kernel
theorem dX2_init_52 : decode cX2_init 52 = .ok (.sipush 192, 3) := by decide +kernel
theorem dX2_init_55 : decode cX2_init 55 = .ok (.newarray .int, 2) := by decide +kernel
theorem dX2_init_57 : decode cX2_init 57 = .ok (.putfield 37, 3) := by decide +kernel
theorem dX2_init_60 : decode cX2_init 60 = .ok (.aload_n 0, 1) := by decide +kernel
theorem dX2_init_61 : decode cX2_init 61 = .ok (.bipush 24, 2) := by decide +kernel
theorem dX2_init_63 : decode cX2_init 63 = .ok (.newarray .long, 2) := by decide +kernel
theorem dX2_init_65 : decode cX2_init 65 = .ok (.putfield 40, 3) := by decide +kernel
theorem dX2_init_68 : decode cX2_init 68 = .ok (.aload_n 0, 1) := by decide +kernel
theorem dX2_init_69 : decode cX2_init 69 = .ok (.bipush 48, 2) := by decide +kernel
theorem dX2_init_71 : decode cX2_init 71 = .ok (.newarray .int, 2) := by decide +kernel
theorem dX2_init_73 : decode cX2_init 73 = .ok (.putfield 44, 3) := by decide +kernel
theorem dX2_init_76 : decode cX2_init 76 = .ok (.aload_n 0, 1) := by decide +kernel
theorem dX2_init_77 : decode cX2_init 77 = .ok (.getfield 37, 3) := by decide +kernel
theorem dX2_init_80 : decode cX2_init 80 = .ok (.iconst (-1), 1) := by decide +kernel
theorem dX2_init_81 : decode cX2_init 81 = .ok (.invokestatic 47, 3) := by decide +kernel
theorem dX2_init_84 : decode cX2_init 84 = .ok (.iconst 0, 1) := by decide +kernel
theorem dX2_init_85 : decode cX2_init 85 = .ok (.istore 7, 2) := by decide +kernel
theorem dX2_init_87 : decode cX2_init 87 = .ok (.iload 7, 2) := by decide +kernel
theorem dX2_init_89 : decode cX2_init 89 = .ok (.iload_n 2, 1) := by decide +kernel
theorem dX2_init_90 : decode cX2_init 90 = .ok (.if_icmp .ge 32, 3) := by decide +kernel
theorem dX2_init_93 : decode cX2_init 93 = .ok (.iconst 0, 1) := by decide +kernel
theorem dX2_init_94 : decode cX2_init 94 = .ok (.istore 8, 2) := by decide +kernel
theorem dX2_init_96 : decode cX2_init 96 = .ok (.iload 8, 2) := by decide +kernel
theorem dX2_init_98 : decode cX2_init 98 = .ok (.iload_n 3, 1) := by decide +kernel
theorem dX2_init_99 : decode cX2_init 99 = .ok (.if_icmp .ge 17, 3) := by decide +kernel
theorem dX2_init_102 : decode cX2_init 102 = .ok (.aload_n 0, 1) := by decide +kernel
theorem dX2_init_103 : decode cX2_init 103 = .ok (.iload 7, 2) := by decide +kernel
theorem dX2_init_105 : decode cX2_init 105 = .ok (.iload 8, 2) := by decide +kernel
theorem dX2_init_107 : decode cX2_init 107 = .ok (.invokevirtual 53, 3) := by decide +kernel
theorem dX2_init_110 : decode cX2_init 110 = .ok (.iinc 8 1, 3) := by decide +kernel
theorem dX2_init_113 : decode cX2_init 113 = .ok (.goto (-17), 3) := by decide +kernel
theorem dX2_init_116 : decode cX2_init 116 = .ok (.iinc 7 1, 3) := by decide +kernel
theorem dX2_init_119 : decode cX2_init 119 = .ok (.goto (-32), 3) := by decide +kernel
theorem dX2_init_122 : decode cX2_init 122 = .ok (.aload_n 0, 1) := by decide +kernel
theorem dX2_init_123 : decode cX2_init 123 = .ok (.aload_n 0, 1) := by decide +kernel
theorem dX2_init_124 : decode cX2_init 124 = .ok (.getfield 40, 3) := by decide +kernel
theorem dX2_init_127 : decode cX2_init 127 = .ok (.invokevirtual 57, 3) := by decide +kernel
theorem dX2_init_130 : decode cX2_init 130 = .ok (.checkcast 58, 3) := by decide +kernel
theorem dX2_init_133 : decode cX2_init 133 = .ok (.putfield 62, 3) := by decide +kernel
theorem dX2_init_136 : decode cX2_init 136 = .ok (.aload_n 0, 1) := by decide +kernel
theorem dX2_init_137 : decode cX2_init 137 = .ok (.aload_n 0, 1) := by decide +kernel
theorem dX2_init_138 : decode cX2_init 138 = .ok (.getfield 62, 3) := by decide +kernel
theorem dX2_init_141 : decode cX2_init 141 = .ok (.aload_n 0, 1) := by decide +kernel
theorem dX2_init_142 : decode cX2_init 142 = .ok (.getfield 34, 3) := by decide +kernel
theorem dX2_init_145 : decode cX2_init 145 = .ok (.aload_n 0, 1) := by decide +kernel
theorem dX2_init_146 : decode cX2_init 146 = .ok (.getfield 31, 3) := by decide +kernel
theorem dX2_init_149 : decode cX2_init 149 = .ok (.invokestatic 65, 3) := by decide +kernel
theorem dX2_init_152 : decode cX2_init 152 = .ok (.putfield 69, 3) := by decide +kernel
theorem dX2_init_155 : decode cX2_init 155 = .ok (.aload_n 0, 1) := by decide +kernel
theorem dX2_init_156 : decode cX2_init 156 = .ok (.aload_n 0, 1) := by decide +kernel
theorem dX2_init_157 : decode cX2_init 157 = .ok (.getfield 31, 3) := by decide +kernel
theorem dX2_init_160 : decode cX2_init 160 = .ok (.aload_n 0, 1) := by decide +kernel
theorem dX2_init_161 : decode cX2_init 161 = .ok (.getfield 69, 3) := by decide +kernel
theorem dX2_init_164 : decode cX2_init 164 = .ok (.invokestatic 73, 3) := by decide +kernel
theorem dX2_init_167 : decode cX2_init 167 = .ok (.isub, 1) := by decide +kernel
theorem dX2_init_168 : decode cX2_init 168 = .ok (.putfield 79, 3) := by decide +kernel
theorem dX2_init_171 : decode cX2_init 171 = .ok (.aload_n 0, 1) := by decide +kernel
theorem dX2_init_172 : decode cX2_init 172 = .ok (.bipush 16, 2) := by decide +kernel
theorem dX2_init_174 : decode cX2_init 174 = .ok (.newarray .int, 2) := by decide +kernel
theorem dX2_init_176 : decode cX2_init 176 = .ok (.putfield 82, 3) := by decide +kernel
theorem dX2_init_179 : decode cX2_init 179 = .ok (.aload_n 0, 1) := by decide +kernel
theorem dX2_init_180 : decode cX2_init 180 = .ok (.getfield 82, 3) := by decide +kernel
theorem dX2_init_183 : decode cX2_init 183 = .ok (.iconst (-1), 1) := by decide +kernel
theorem dX2_init_184 : decode cX2_init 184 = .ok (.invokestatic 47, 3) := by decide +kernel
theorem dX2_init_187 : decode cX2_init 187 = .ok (.return_, 1) := by decide +kernel
theorem dX2_lay_0 : decode cX2_lay 0 = .ok (.aload_n 0, 1) := by decide +kernel
theorem dX2_lay_1 : decode cX2_lay 1 = .ok (.getfield 27, 3) := by decide +kernel
theorem dX2_lay_4 : decode cX2_lay 4 = .ok (.iload_n 1, 1) := by decide +kernel
theorem dX2_lay_5 : decode cX2_lay 5 = .ok (.bipush 8, 2) := by decide +kernel
theorem dX2_lay_7 : decode cX2_lay 7 = .ok (.imul, 1) := by decide +kernel
theorem dX2_lay_8 : decode cX2_lay 8 = .ok (.iload_n 2, 1) := by decide +kernel
theorem dX2_lay_9 : decode cX2_lay 9 = .ok (.iadd, 1) := by decide +kernel
theorem dX2_lay_10 : decode cX2_lay 10 = .ok (.iaload, 1) := by decide +kernel
theorem dX2_lay_11 : decode cX2_lay 11 = .ok (.istore_n 3, 1) := by decide +kernel
theorem dX2_lay_12 : decode cX2_lay 12 = .ok (.iload_n 3, 1) := by decide +kernel
theorem dX2_lay_13 : decode cX2_lay 13 = .ok (.ifCond .ge 4, 3) := by decide +kernel
theorem dX2_lay_16 : decode cX2_lay 16 = .ok (.return_, 1) := by decide +kernel
theorem dX2_lay_17 : decode cX2_lay 17 = .ok (.iconst 0, 1) := by decide +kernel
theorem dX2_lay_18 : decode cX2_lay 18 = .ok (.istore 4, 2) := by decide +kernel
theorem dX2_lay_20 : decode cX2_lay 20 = .ok (.iload 4, 2) := by decide +kernel
theorem dX2_lay_22 : decode cX2_lay 22 = .ok (.aload_n 0, 1) := by decide +kernel
theorem dX2_lay_23 : decode cX2_lay 23 = .ok (.getfield 9, 3) := by decide +kernel
theorem dX2_lay_26 : decode cX2_lay 26 = .ok (.if_icmp .ge 102, 3) := by decide +kernel
theorem dX2_lay_29 : decode cX2_lay 29 = .ok (.iload 4, 2) := by decide +kernel
theorem dX2_lay_31 : decode cX2_lay 31 = .ok (.iload_n 3, 1) := by decide +kernel
theorem dX2_lay_32 : decode cX2_lay 32 = .ok (.iadd, 1) := by decide +kernel
theorem dX2_lay_33 : decode cX2_lay 33 = .ok (.aload_n 0, 1) := by decide +kernel
theorem dX2_lay_34 : decode cX2_lay 34 = .ok (.getfield 9, 3) := by decide +kernel
theorem dX2_lay_37 : decode cX2_lay 37 = .ok (.if_icmp .ge 10, 3) := by decide +kernel
theorem dX2_lay_40 : decode cX2_lay 40 = .ok (.iload 4, 2) := by decide +kernel
theorem dX2_lay_42 : decode cX2_lay 42 = .ok (.iload_n 3, 1) := by decide +kernel
theorem dX2_lay_43 : decode cX2_lay 43 = .ok (.iadd, 1) := by decide +kernel
theorem dX2_lay_44 : decode cX2_lay 44 = .ok (.goto 12, 3) := by decide +kernel
theorem dX2_lay_47 : decode cX2_lay 47 = .ok (.iload 4, 2) := by decide +kernel
theorem dX2_lay_49 : decode cX2_lay 49 = .ok (.iload_n 3, 1) := by decide +kernel
theorem dX2_lay_50 : decode cX2_lay 50 = .ok (.iadd, 1) := by decide +kernel
theorem dX2_lay_51 : decode cX2_lay 51 = .ok (.aload_n 0, 1) := by decide +kernel
theorem dX2_lay_52 : decode cX2_lay 52 = .ok (.getfield 9, 3) := by decide +kernel
theorem dX2_lay_55 : decode cX2_lay 55 = .ok (.isub, 1) := by decide +kernel
theorem dX2_lay_56 : decode cX2_lay 56 = .ok (.istore 5, 2) := by decide +kernel
theorem dX2_lay_58 : decode cX2_lay 58 = .ok (.iload_n 2, 1) := by decide +kernel
theorem dX2_lay_59 : decode cX2_lay 59 = .ok (.aload_n 0, 1) := by decide +kernel
theorem dX2_lay_60 : decode cX2_lay 60 = .ok (.getfield 9, 3) := by decide +kernel
theorem dX2_lay_63 : decode cX2_lay 63 = .ok (.imul, 1) := by decide +kernel
theorem dX2_lay_64 : decode cX2_lay 64 = .ok (.iload 5, 2) := by decide +kernel
theorem dX2_lay_66 : decode cX2_lay 66 = .ok (.iadd, 1) := by decide +kernel
theorem dX2_lay_67 : decode cX2_lay 67 = .ok (.istore 6, 2) := by decide +kernel
theorem dX2_lay_69 : decode cX2_lay 69 = .ok (.iload_n 1, 1) := by decide +kernel
theorem dX2_lay_70 : decode cX2_lay 70 = .ok (.aload_n 0, 1) := by decide +kernel
theorem dX2_lay_71 : decode cX2_lay 71 = .ok (.getfield 9, 3) := by decide +kernel
theorem dX2_lay_74 : decode cX2_lay 74 = .ok (.imul, 1) := by decide +kernel
theorem dX2_lay_75 : decode cX2_lay 75 = .ok (.iload 4, 2) := by decide +kernel
theorem dX2_lay_77 : decode cX2_lay 77 = .ok (.iadd, 1) := by decide +kernel
theorem dX2_lay_78 : decode cX2_lay 78 = .ok (.istore 7, 2) := by decide +kernel
theorem dX2_lay_80 : decode cX2_lay 80 = .ok (.aload_n 0, 1) := by decide +kernel
theorem dX2_lay_81 : decode cX2_lay 81 = .ok (.getfield 37, 3) := by decide +kernel
theorem dX2_lay_84 : decode cX2_lay 84 = .ok (.iload 7, 2) := by decide +kernel
theorem dX2_lay_86 : decode cX2_lay 86 = .ok (.bipush 8, 2) := by decide +kernel
theorem dX2_lay_88 : decode cX2_lay 88 = .ok (.imul, 1) := by decide +kernel
theorem dX2_lay_89 : decode cX2_lay 89 = .ok (.iload_n 2, 1) := by decide +kernel
theorem dX2_lay_90 : decode cX2_lay 90 = .ok (.iadd, 1) := by decide +kernel
theorem dX2_lay_91 : decode cX2_lay 91 = .ok (.iload 6, 2) := by decide +kernel
theorem dX2_lay_93 : decode cX2_lay 93 = .ok (.iastore, 1) := by decide +kernel
theorem dX2_lay_94 : decode cX2_lay 94 = .ok (.aload_n 0, 1) := by decide +kernel
theorem dX2_lay_95 : decode cX2_lay 95 = .ok (.getfield 40, 3) := by decide +kernel
theorem dX2_lay_98 : decode cX2_lay 98 = .ok (.iload 7, 2) := by decide +kernel
theorem dX2_lay_100 : decode cX2_lay 100 = .ok (.dup2, 1) := by decide +kernel
theorem dX2_lay_101 : decode cX2_lay 101 = .ok (.laload, 1) := by decide +kernel
theorem dX2_lay_102 : decode cX2_lay 102 = .ok (.lconst 1, 1) := by decide +kernel
theorem dX2_lay_103 : decode cX2_lay 103 = .ok (.iload 6, 2) := by decide +kernel
theorem dX2_lay_105 : decode cX2_lay 105 = .ok (.lshl, 1) := by decide +kernel
theorem dX2_lay_106 : decode cX2_lay 106 = .ok (.lor, 1) := by decide +kernel
theorem dX2_lay_107 : decode cX2_lay 107 = .ok (.lastore, 1) := by decide +kernel
theorem dX2_lay_108 : decode cX2_lay 108 = .ok (.aload_n 0, 1) := by decide +kernel
theorem dX2_lay_109 : decode cX2_lay 109 = .ok (.getfield 44, 3) := by decide +kernel
theorem dX2_lay_112 : decode cX2_lay 112 = .ok (.iload 6, 2) := by decide +kernel
theorem dX2_lay_114 : decode cX2_lay 114 = .ok (.dup2, 1) := by decide +kernel
theorem dX2_lay_115 : decode cX2_lay 115 = .ok (.iaload, 1) := by decide +kernel
theorem dX2_lay_116 : decode cX2_lay 116 = .ok (.iconst 1, 1) := by decide +kernel
theorem dX2_lay_117 : decode cX2_lay 117 = .ok (.iload 7, 2) := by decide +kernel
theorem dX2_lay_119 : decode cX2_lay 119 = .ok (.ishl, 1) := by decide +kernel
theorem dX2_lay_120 : decode cX2_lay 120 = .ok (.ior, 1) := by decide +kernel
theorem dX2_lay_121 : decode cX2_lay 121 = .ok (.iastore, 1) := by decide +kernel
theorem dX2_lay_122 : decode cX2_lay 122 = .ok (.iinc 4 1, 3) := by decide +kernel
theorem dX2_lay_125 : decode cX2_lay 125 = .ok (.goto (-105), 3) := by decide +kernel
theorem dX2_lay_128 : decode cX2_lay 128 = .ok (.return_, 1) := by decide +kernel
theorem dX2_reduce_0 : decode cX2_reduce 0 = .ok (.lconst 0, 1) := by decide +kernel
theorem dX2_reduce_1 : decode cX2_reduce 1 = .ok (.lstore_n 3, 1) := by decide +kernel
theorem dX2_reduce_2 : decode cX2_reduce 2 = .ok (.iconst 0, 1) := by decide +kernel
theorem dX2_reduce_3 : decode cX2_reduce 3 = .ok (.istore 5, 2) := by decide +kernel
theorem dX2_reduce_5 : decode cX2_reduce 5 = .ok (.iconst 0, 1) := by decide +kernel
theorem dX2_reduce_6 : decode cX2_reduce 6 = .ok (.istore 6, 2) := by decide +kernel
theorem dX2_reduce_8 : decode cX2_reduce 8 = .ok (.iload 6, 2) := by decide +kernel
theorem dX2_reduce_10 : decode cX2_reduce 10 = .ok (.iload_n 2, 1) := by decide +kernel
theorem dX2_reduce_11 : decode cX2_reduce 11 = .ok (.if_icmp .ge 123, 3) := by decide +kernel
theorem dX2_reduce_14 : decode cX2_reduce 14 = .ok (.iload 5, 2) := by decide +kernel
theorem dX2_reduce_16 : decode cX2_reduce 16 = .ok (.istore 7, 2) := by decide +kernel
theorem dX2_reduce_18 : decode cX2_reduce 18 = .ok (.iload 7, 2) := by decide +kernel
theorem dX2_reduce_20 : decode cX2_reduce 20 = .ok (.iload_n 1, 1) := by decide +kernel
theorem dX2_reduce_21 : decode cX2_reduce 21 = .ok (.if_icmp .ge 23, 3) := by decide +kernel
theorem dX2_reduce_24 : decode cX2_reduce 24 = .ok (.aload_n 0, 1) := by decide +kernel
theorem dX2_reduce_25 : decode cX2_reduce 25 = .ok (.iload 7, 2) := by decide +kernel
theorem dX2_reduce_27 : decode cX2_reduce 27 = .ok (.laload, 1) := by decide +kernel
theorem dX2_reduce_28 : decode cX2_reduce 28 = .ok (.iload 6, 2) := by decide +kernel
theorem dX2_reduce_30 : decode cX2_reduce 30 = .ok (.lshr, 1) := by decide +kernel
theorem dX2_reduce_31 : decode cX2_reduce 31 = .ok (.lconst 1, 1) := by decide +kernel
theorem dX2_reduce_32 : decode cX2_reduce 32 = .ok (.land, 1) := by decide +kernel
theorem dX2_reduce_33 : decode cX2_reduce 33 = .ok (.lconst 0, 1) := by decide +kernel
theorem dX2_reduce_34 : decode cX2_reduce 34 = .ok (.lcmp, 1) := by decide +kernel
theorem dX2_reduce_35 : decode cX2_reduce 35 = .ok (.ifCond .ne 9, 3) := by decide +kernel
theorem dX2_reduce_38 : decode cX2_reduce 38 = .ok (.iinc 7 1, 3) := by decide +kernel
theorem dX2_reduce_41 : decode cX2_reduce 41 = .ok (.goto (-23), 3) := by decide +kernel
theorem dX2_reduce_44 : decode cX2_reduce 44 = .ok (.iload 7, 2) := by decide +kernel
theorem dX2_reduce_46 : decode cX2_reduce 46 = .ok (.iload_n 1, 1) := by decide +kernel
theorem dX2_reduce_47 : decode cX2_reduce 47 = .ok (.if_icmp .lt 13, 3) := by decide +kernel
theorem dX2_reduce_50 : decode cX2_reduce 50 = .ok (.lload_n 3, 1) := by decide +kernel
theorem dX2_reduce_51 : decode cX2_reduce 51 = .ok (.lconst 1, 1) := by decide +kernel
theorem dX2_reduce_52 : decode cX2_reduce 52 = .ok (.iload 6, 2) := by decide +kernel
theorem dX2_reduce_54 : decode cX2_reduce 54 = .ok (.lshl, 1) := by decide +kernel
theorem dX2_reduce_55 : decode cX2_reduce 55 = .ok (.lor, 1) := by decide +kernel
theorem dX2_reduce_56 : decode cX2_reduce 56 = .ok (.lstore_n 3, 1) := by decide +kernel
theorem dX2_reduce_57 : decode cX2_reduce 57 = .ok (.goto 71, 3) := by decide +kernel
theorem dX2_reduce_60 : decode cX2_reduce 60 = .ok (.aload_n 0, 1) := by decide +kernel
theorem dX2_reduce_61 : decode cX2_reduce 61 = .ok (.iload 7, 2) := by decide +kernel
theorem dX2_reduce_63 : decode cX2_reduce 63 = .ok (.laload, 1) := by decide +kernel
theorem dX2_reduce_64 : decode cX2_reduce 64 = .ok (.lstore 8, 2) := by decide +kernel
theorem dX2_reduce_66 : decode cX2_reduce 66 = .ok (.aload_n 0, 1) := by decide +kernel
theorem dX2_reduce_67 : decode cX2_reduce 67 = .ok (.iload 7, 2) := by decide +kernel
theorem dX2_reduce_69 : decode cX2_reduce 69 = .ok (.aload_n 0, 1) := by decide +kernel
theorem dX2_reduce_70 : decode cX2_reduce 70 = .ok (.iload 5, 2) := by decide +kernel
theorem dX2_reduce_72 : decode cX2_reduce 72 = .ok (.laload, 1) := by decide +kernel
theorem dX2_reduce_73 : decode cX2_reduce 73 = .ok (.lastore, 1) := by decide +kernel
theorem dX2_reduce_74 : decode cX2_reduce 74 = .ok (.aload_n 0, 1) := by decide +kernel
theorem dX2_reduce_75 : decode cX2_reduce 75 = .ok (.iload 5, 2) := by decide +kernel
theorem dX2_reduce_77 : decode cX2_reduce 77 = .ok (.lload 8, 2) := by decide +kernel
theorem dX2_reduce_79 : decode cX2_reduce 79 = .ok (.lastore, 1) := by decide +kernel
theorem dX2_reduce_80 : decode cX2_reduce 80 = .ok (.iconst 0, 1) := by decide +kernel
theorem dX2_reduce_81 : decode cX2_reduce 81 = .ok (.istore 10, 2) := by decide +kernel
theorem dX2_reduce_83 : decode cX2_reduce 83 = .ok (.iload 10, 2) := by decide +kernel
theorem dX2_reduce_85 : decode cX2_reduce 85 = .ok (.iload_n 1, 1) := by decide +kernel
theorem dX2_reduce_86 : decode cX2_reduce 86 = .ok (.if_icmp .ge 39, 3) := by decide +kernel
theorem dX2_reduce_89 : decode cX2_reduce 89 = .ok (.iload 10, 2) := by decide +kernel
theorem dX2_reduce_91 : decode cX2_reduce 91 = .ok (.iload 5, 2) := by decide +kernel
theorem dX2_reduce_93 : decode cX2_reduce 93 = .ok (.if_icmp .eq 26, 3) := by decide +kernel
theorem dX2_reduce_96 : decode cX2_reduce 96 = .ok (.aload_n 0, 1) := by decide +kernel
theorem dX2_reduce_97 : decode cX2_reduce 97 = .ok (.iload 10, 2) := by decide +kernel
theorem dX2_reduce_99 : decode cX2_reduce 99 = .ok (.laload, 1) := by decide +kernel
theorem dX2_reduce_100 : decode cX2_reduce 100 = .ok (.iload 6, 2) := by decide +kernel
theorem dX2_reduce_102 : decode cX2_reduce 102 = .ok (.lshr, 1) := by decide +kernel
theorem dX2_reduce_103 : decode cX2_reduce 103 = .ok (.lconst 1, 1) := by decide +kernel
theorem dX2_reduce_104 : decode cX2_reduce 104 = .ok (.land, 1) := by decide +kernel
theorem dX2_reduce_105 : decode cX2_reduce 105 = .ok (.lconst 0, 1) := by decide +kernel
theorem dX2_reduce_106 : decode cX2_reduce 106 = .ok (.lcmp, 1) := by decide +kernel
theorem dX2_reduce_107 : decode cX2_reduce 107 = .ok (.ifCond .eq 12, 3) := by decide +kernel
theorem dX2_reduce_110 : decode cX2_reduce 110 = .ok (.aload_n 0, 1) := by decide +kernel
theorem dX2_reduce_111 : decode cX2_reduce 111 = .ok (.iload 10, 2) := by decide +kernel
theorem dX2_reduce_113 : decode cX2_reduce 113 = .ok (.dup2, 1) := by decide +kernel
theorem dX2_reduce_114 : decode cX2_reduce 114 = .ok (.laload, 1) := by decide +kernel
theorem dX2_reduce_115 : decode cX2_reduce 115 = .ok (.lload 8, 2) := by decide +kernel
theorem dX2_reduce_117 : decode cX2_reduce 117 = .ok (.lxor, 1) := by decide +kernel
theorem dX2_reduce_118 : decode cX2_reduce 118 = .ok (.lastore, 1) := by decide +kernel
theorem dX2_reduce_119 : decode cX2_reduce 119 = .ok (.iinc 10 1, 3) := by decide +kernel
theorem dX2_reduce_122 : decode cX2_reduce 122 = .ok (.goto (-39), 3) := by decide +kernel
theorem dX2_reduce_125 : decode cX2_reduce 125 = .ok (.iinc 5 1, 3) := by decide +kernel
theorem dX2_reduce_128 : decode cX2_reduce 128 = .ok (.iinc 6 1, 3) := by decide +kernel
theorem dX2_reduce_131 : decode cX2_reduce 131 = .ok (.goto (-123), 3) := by decide +kernel
theorem dX2_reduce_134 : decode cX2_reduce 134 = .ok (.lload_n 3, 1) := by decide +kernel
theorem dX2_reduce_135 : decode cX2_reduce 135 = .ok (.lreturn, 1) := by decide +kernel
theorem dX2_wordOf_0 : decode cX2_wordOf 0 = .ok (.lconst 0, 1) := by decide +kernel
theorem dX2_wordOf_1 : decode cX2_wordOf 1 = .ok (.lstore_n 3, 1) := by decide +kernel
theorem dX2_wordOf_2 : decode cX2_wordOf 2 = .ok (.aload_n 0, 1) := by decide +kernel
theorem dX2_wordOf_3 : decode cX2_wordOf 3 = .ok (.getfield 69, 3) := by decide +kernel
theorem dX2_wordOf_6 : decode cX2_wordOf 6 = .ok (.lstore 5, 2) := by decide +kernel
theorem dX2_wordOf_8 : decode cX2_wordOf 8 = .ok (.aload_n 0, 1) := by decide +kernel
theorem dX2_wordOf_9 : decode cX2_wordOf 9 = .ok (.getfield 69, 3) := by decide +kernel
theorem dX2_wordOf_12 : decode cX2_wordOf 12 = .ok (.invokestatic 73, 3) := by decide +kernel
theorem dX2_wordOf_15 : decode cX2_wordOf 15 = .ok (.istore 7, 2) := by decide +kernel
theorem dX2_wordOf_17 : decode cX2_wordOf 17 = .ok (.iconst 0, 1) := by decide +kernel
theorem dX2_wordOf_18 : decode cX2_wordOf 18 = .ok (.istore 8, 2) := by decide +kernel
theorem dX2_wordOf_20 : decode cX2_wordOf 20 = .ok (.iload 8, 2) := by decide +kernel
theorem dX2_wordOf_22 : decode cX2_wordOf 22 = .ok (.iload 7, 2) := by decide +kernel
theorem dX2_wordOf_24 : decode cX2_wordOf 24 = .ok (.if_icmp .ge 38, 3) := by decide +kernel
theorem dX2_wordOf_27 : decode cX2_wordOf 27 = .ok (.lload_n 1, 1) := by decide +kernel
theorem dX2_wordOf_28 : decode cX2_wordOf 28 = .ok (.iload 8, 2) := by decide +kernel
theorem dX2_wordOf_30 : decode cX2_wordOf 30 = .ok (.lshr, 1) := by decide +kernel
theorem dX2_wordOf_31 : decode cX2_wordOf 31 = .ok (.lconst 1, 1) := by decide +kernel
theorem dX2_wordOf_32 : decode cX2_wordOf 32 = .ok (.land, 1) := by decide +kernel
theorem dX2_wordOf_33 : decode cX2_wordOf 33 = .ok (.lconst 0, 1) := by decide +kernel
theorem dX2_wordOf_34 : decode cX2_wordOf 34 = .ok (.lcmp, 1) := by decide +kernel
theorem dX2_wordOf_35 : decode cX2_wordOf 35 = .ok (.ifCond .eq 12, 3) := by decide +kernel
theorem dX2_wordOf_38 : decode cX2_wordOf 38 = .ok (.lload_n 3, 1) := by decide +kernel
theorem dX2_wordOf_39 : decode cX2_wordOf 39 = .ok (.lload 5, 2) := by decide +kernel
theorem dX2_wordOf_41 : decode cX2_wordOf 41 = .ok (.lload 5, 2) := by decide +kernel
theorem dX2_wordOf_43 : decode cX2_wordOf 43 = .ok (.lneg, 1) := by decide +kernel
theorem dX2_wordOf_44 : decode cX2_wordOf 44 = .ok (.land, 1) := by decide +kernel
theorem dX2_wordOf_45 : decode cX2_wordOf 45 = .ok (.lor, 1) := by decide +kernel
theorem dX2_wordOf_46 : decode cX2_wordOf 46 = .ok (.lstore_n 3, 1) := by decide +kernel
theorem dX2_wordOf_47 : decode cX2_wordOf 47 = .ok (.lload 5, 2) := by decide +kernel
theorem dX2_wordOf_49 : decode cX2_wordOf 49 = .ok (.lload 5, 2) := by decide +kernel
theorem dX2_wordOf_51 : decode cX2_wordOf 51 = .ok (.lconst 1, 1) := by decide +kernel
theorem dX2_wordOf_52 : decode cX2_wordOf 52 = .ok (.lsub, 1) := by decide +kernel
theorem dX2_wordOf_53 : decode cX2_wordOf 53 = .ok (.land, 1) := by decide +kernel
theorem dX2_wordOf_54 : decode cX2_wordOf 54 = .ok (.lstore 5, 2) := by decide +kernel
theorem dX2_wordOf_56 : decode cX2_wordOf 56 = .ok (.iinc 8 1, 3) := by decide +kernel
theorem dX2_wordOf_59 : decode cX2_wordOf 59 = .ok (.goto (-39), 3) := by decide +kernel
theorem dX2_wordOf_62 : decode cX2_wordOf 62 = .ok (.lload_n 3, 1) := by decide +kernel
theorem dX2_wordOf_63 : decode cX2_wordOf 63 = .ok (.lstore 8, 2) := by decide +kernel
theorem dX2_wordOf_65 : decode cX2_wordOf 65 = .ok (.iconst 0, 1) := by decide +kernel
theorem dX2_wordOf_66 : decode cX2_wordOf 66 = .ok (.istore 10, 2) := by decide +kernel
theorem dX2_wordOf_68 : decode cX2_wordOf 68 = .ok (.iload 10, 2) := by decide +kernel
theorem dX2_wordOf_70 : decode cX2_wordOf 70 = .ok (.aload_n 0, 1) := by decide +kernel
theorem dX2_wordOf_71 : decode cX2_wordOf 71 = .ok (.getfield 79, 3) := by decide +kernel
theorem dX2_wordOf_74 : decode cX2_wordOf 74 = .ok (.if_icmp .ge 44, 3) := by decide +kernel
theorem dX2_wordOf_77 : decode cX2_wordOf 77 = .ok (.aload_n 0, 1) := by decide +kernel
theorem dX2_wordOf_78 : decode cX2_wordOf 78 = .ok (.getfield 62, 3) := by decide +kernel
theorem dX2_wordOf_81 : decode cX2_wordOf 81 = .ok (.iload 10, 2) := by decide +kernel
theorem dX2_wordOf_83 : decode cX2_wordOf 83 = .ok (.laload, 1) := by decide +kernel
theorem dX2_wordOf_84 : decode cX2_wordOf 84 = .ok (.lload 8, 2) := by decide +kernel
theorem dX2_wordOf_86 : decode cX2_wordOf 86 = .ok (.land, 1) := by decide +kernel
theorem dX2_wordOf_87 : decode cX2_wordOf 87 = .ok (.invokestatic 85, 3) := by decide +kernel
theorem dX2_wordOf_90 : decode cX2_wordOf 90 = .ok (.ifCond .eq 22, 3) := by decide +kernel
theorem dX2_wordOf_93 : decode cX2_wordOf 93 = .ok (.lload_n 3, 1) := by decide +kernel
theorem dX2_wordOf_94 : decode cX2_wordOf 94 = .ok (.aload_n 0, 1) := by decide +kernel
theorem dX2_wordOf_95 : decode cX2_wordOf 95 = .ok (.getfield 62, 3) := by decide +kernel
theorem dX2_wordOf_98 : decode cX2_wordOf 98 = .ok (.iload 10, 2) := by decide +kernel
theorem dX2_wordOf_100 : decode cX2_wordOf 100 = .ok (.laload, 1) := by decide +kernel
theorem dX2_wordOf_101 : decode cX2_wordOf 101 = .ok (.aload_n 0, 1) := by decide +kernel
theorem dX2_wordOf_102 : decode cX2_wordOf 102 = .ok (.getfield 62, 3) := by decide +kernel
theorem dX2_wordOf_105 : decode cX2_wordOf 105 = .ok (.iload 10, 2) := by decide +kernel
theorem dX2_wordOf_107 : decode cX2_wordOf 107 = .ok (.laload, 1) := by decide +kernel
theorem dX2_wordOf_108 : decode cX2_wordOf 108 = .ok (.lneg, 1) := by decide +kernel
theorem dX2_wordOf_109 : decode cX2_wordOf 109 = .ok (.land, 1) := by decide +kernel
theorem dX2_wordOf_110 : decode cX2_wordOf 110 = .ok (.lor, 1) := by decide +kernel
theorem dX2_wordOf_111 : decode cX2_wordOf 111 = .ok (.lstore_n 3, 1) := by decide +kernel
theorem dX2_wordOf_112 : decode cX2_wordOf 112 = .ok (.iinc 10 1, 3) := by decide +kernel
theorem dX2_wordOf_115 : decode cX2_wordOf 115 = .ok (.goto (-47), 3) := by decide +kernel
theorem dX2_wordOf_118 : decode cX2_wordOf 118 = .ok (.lload_n 3, 1) := by decide +kernel
theorem dX2_wordOf_119 : decode cX2_wordOf 119 = .ok (.lreturn, 1) := by decide +kernel
theorem dX2_moved_0 : decode cX2_moved 0 = .ok (.aload_n 0, 1) := by decide +kernel
theorem dX2_moved_1 : decode cX2_moved 1 = .ok (.getfield 27, 3) := by decide +kernel
theorem dX2_moved_4 : decode cX2_moved 4 = .ok (.invokevirtual 89, 3) := by decide +kernel
theorem dX2_moved_7 : decode cX2_moved 7 = .ok (.checkcast 90, 3) := by decide +kernel
theorem dX2_moved_10 : decode cX2_moved 10 = .ok (.astore 4, 2) := by decide +kernel
theorem dX2_moved_12 : decode cX2_moved 12 = .ok (.iconst 0, 1) := by decide +kernel
theorem dX2_moved_13 : decode cX2_moved 13 = .ok (.istore 5, 2) := by decide +kernel
theorem dX2_moved_15 : decode cX2_moved 15 = .ok (.iload 5, 2) := by decide +kernel
theorem dX2_moved_17 : decode cX2_moved 17 = .ok (.aload_n 0, 1) := by decide +kernel
theorem dX2_moved_18 : decode cX2_moved 18 = .ok (.getfield 15, 3) := by decide +kernel
theorem dX2_moved_21 : decode cX2_moved 21 = .ok (.if_icmp .ge 89, 3) := by decide +kernel
theorem dX2_moved_24 : decode cX2_moved 24 = .ok (.iconst 0, 1) := by decide +kernel
theorem dX2_moved_25 : decode cX2_moved 25 = .ok (.istore 6, 2) := by decide +kernel
theorem dX2_moved_27 : decode cX2_moved 27 = .ok (.iload 6, 2) := by decide +kernel
theorem dX2_moved_29 : decode cX2_moved 29 = .ok (.aload_n 0, 1) := by decide +kernel
theorem dX2_moved_30 : decode cX2_moved 30 = .ok (.getfield 18, 3) := by decide +kernel
theorem dX2_moved_33 : decode cX2_moved 33 = .ok (.if_icmp .ge 71, 3) := by decide +kernel
theorem dX2_moved_36 : decode cX2_moved 36 = .ok (.iload 5, 2) := by decide +kernel
theorem dX2_moved_38 : decode cX2_moved 38 = .ok (.iload_n 1, 1) := by decide +kernel
theorem dX2_moved_39 : decode cX2_moved 39 = .ok (.if_icmp .eq 9, 3) := by decide +kernel
theorem dX2_moved_42 : decode cX2_moved 42 = .ok (.iload 6, 2) := by decide +kernel
theorem dX2_moved_44 : decode cX2_moved 44 = .ok (.iload_n 2, 1) := by decide +kernel
theorem dX2_moved_45 : decode cX2_moved 45 = .ok (.if_icmp .ne 53, 3) := by decide +kernel
theorem dX2_moved_48 : decode cX2_moved 48 = .ok (.aload 4, 2) := by decide +kernel
theorem dX2_moved_50 : decode cX2_moved 50 = .ok (.iload 5, 2) := by decide +kernel
theorem dX2_moved_52 : decode cX2_moved 52 = .ok (.bipush 8, 2) := by decide +kernel
theorem dX2_moved_54 : decode cX2_moved 54 = .ok (.imul, 1) := by decide +kernel
theorem dX2_moved_55 : decode cX2_moved 55 = .ok (.iload 6, 2) := by decide +kernel
theorem dX2_moved_57 : decode cX2_moved 57 = .ok (.iadd, 1) := by decide +kernel
theorem dX2_moved_58 : decode cX2_moved 58 = .ok (.iaload, 1) := by decide +kernel
theorem dX2_moved_59 : decode cX2_moved 59 = .ok (.ifCond .lt 39, 3) := by decide +kernel
theorem dX2_moved_62 : decode cX2_moved 62 = .ok (.aload_n 0, 1) := by decide +kernel
theorem dX2_moved_63 : decode cX2_moved 63 = .ok (.getfield 9, 3) := by decide +kernel
theorem dX2_moved_66 : decode cX2_moved 66 = .ok (.ifCond .le 32, 3) := by decide +kernel
theorem dX2_moved_69 : decode cX2_moved 69 = .ok (.aload 4, 2) := by decide +kernel
theorem dX2_moved_71 : decode cX2_moved 71 = .ok (.iload 5, 2) := by decide +kernel
theorem dX2_moved_73 : decode cX2_moved 73 = .ok (.bipush 8, 2) := by decide +kernel
theorem dX2_moved_75 : decode cX2_moved 75 = .ok (.imul, 1) := by decide +kernel
theorem dX2_moved_76 : decode cX2_moved 76 = .ok (.iload 6, 2) := by decide +kernel
theorem dX2_moved_78 : decode cX2_moved 78 = .ok (.iadd, 1) := by decide +kernel
theorem dX2_moved_79 : decode cX2_moved 79 = .ok (.aload 4, 2) := by decide +kernel
theorem dX2_moved_81 : decode cX2_moved 81 = .ok (.iload 5, 2) := by decide +kernel
theorem dX2_moved_83 : decode cX2_moved 83 = .ok (.bipush 8, 2) := by decide +kernel
theorem dX2_moved_85 : decode cX2_moved 85 = .ok (.imul, 1) := by decide +kernel
theorem dX2_moved_86 : decode cX2_moved 86 = .ok (.iload 6, 2) := by decide +kernel
theorem dX2_moved_88 : decode cX2_moved 88 = .ok (.iadd, 1) := by decide +kernel
theorem dX2_moved_89 : decode cX2_moved 89 = .ok (.iaload, 1) := by decide +kernel
theorem dX2_moved_90 : decode cX2_moved 90 = .ok (.iload_n 3, 1) := by decide +kernel
theorem dX2_moved_91 : decode cX2_moved 91 = .ok (.iadd, 1) := by decide +kernel
theorem dX2_moved_92 : decode cX2_moved 92 = .ok (.aload_n 0, 1) := by decide +kernel
theorem dX2_moved_93 : decode cX2_moved 93 = .ok (.getfield 9, 3) := by decide +kernel
theorem dX2_moved_96 : decode cX2_moved 96 = .ok (.irem, 1) := by decide +kernel
theorem dX2_moved_97 : decode cX2_moved 97 = .ok (.iastore, 1) := by decide +kernel
theorem dX2_moved_98 : decode cX2_moved 98 = .ok (.iinc 6 1, 3) := by decide +kernel
theorem dX2_moved_101 : decode cX2_moved 101 = .ok (.goto (-74), 3) := by decide +kernel
theorem dX2_moved_104 : decode cX2_moved 104 = .ok (.iinc 5 1, 3) := by decide +kernel
theorem dX2_moved_107 : decode cX2_moved 107 = .ok (.goto (-92), 3) := by decide +kernel
theorem dX2_moved_110 : decode cX2_moved 110 = .ok (.new 10, 3) := by decide +kernel
theorem dX2_moved_113 : decode cX2_moved 113 = .ok (.dup, 1) := by decide +kernel
theorem dX2_moved_114 : decode cX2_moved 114 = .ok (.aload_n 0, 1) := by decide +kernel
theorem dX2_moved_115 : decode cX2_moved 115 = .ok (.getfield 9, 3) := by decide +kernel
theorem dX2_moved_118 : decode cX2_moved 118 = .ok (.aload_n 0, 1) := by decide +kernel
theorem dX2_moved_119 : decode cX2_moved 119 = .ok (.getfield 15, 3) := by decide +kernel
theorem dX2_moved_122 : decode cX2_moved 122 = .ok (.aload_n 0, 1) := by decide +kernel
theorem dX2_moved_123 : decode cX2_moved 123 = .ok (.getfield 18, 3) := by decide +kernel
theorem dX2_moved_126 : decode cX2_moved 126 = .ok (.aload_n 0, 1) := by decide +kernel
theorem dX2_moved_127 : decode cX2_moved 127 = .ok (.getfield 21, 3) := by decide +kernel
theorem dX2_moved_130 : decode cX2_moved 130 = .ok (.aload_n 0, 1) := by decide +kernel
theorem dX2_moved_131 : decode cX2_moved 131 = .ok (.getfield 24, 3) := by decide +kernel
theorem dX2_moved_134 : decode cX2_moved 134 = .ok (.aload 4, 2) := by decide +kernel
theorem dX2_moved_136 : decode cX2_moved 136 = .ok (.invokespecial 91, 3) := by decide +kernel
theorem dX2_moved_139 : decode cX2_moved 139 = .ok (.areturn, 1) := by decide +kernel
theorem dX2_countOdd_0 : decode cX2_countOdd 0 = .ok (.iconst 0, 1) := by decide +kernel
theorem dX2_countOdd_1 : decode cX2_countOdd 1 = .ok (.istore_n 3, 1) := by decide +kernel
theorem dX2_countOdd_2 : decode cX2_countOdd 2 = .ok (.iconst 0, 1) := by decide +kernel
theorem dX2_countOdd_3 : decode cX2_countOdd 3 = .ok (.istore 4, 2) := by decide +kernel
theorem dX2_countOdd_5 : decode cX2_countOdd 5 = .ok (.iload 4, 2) := by decide +kernel
theorem dX2_countOdd_7 : decode cX2_countOdd 7 = .ok (.aload_n 0, 1) := by decide +kernel
theorem dX2_countOdd_8 : decode cX2_countOdd 8 = .ok (.getfield 34, 3) := by decide +kernel
theorem dX2_countOdd_11 : decode cX2_countOdd 11 = .ok (.if_icmp .ge 26, 3) := by decide +kernel
theorem dX2_countOdd_14 : decode cX2_countOdd 14 = .ok (.iload_n 3, 1) := by decide +kernel
theorem dX2_countOdd_15 : decode cX2_countOdd 15 = .ok (.aload_n 0, 1) := by decide +kernel
theorem dX2_countOdd_16 : decode cX2_countOdd 16 = .ok (.getfield 40, 3) := by decide +kernel
theorem dX2_countOdd_19 : decode cX2_countOdd 19 = .ok (.iload 4, 2) := by decide +kernel
theorem dX2_countOdd_21 : decode cX2_countOdd 21 = .ok (.laload, 1) := by decide +kernel
theorem dX2_countOdd_22 : decode cX2_countOdd 22 = .ok (.lload_n 1, 1) := by decide +kernel
theorem dX2_countOdd_23 : decode cX2_countOdd 23 = .ok (.land, 1) := by decide +kernel
theorem dX2_countOdd_24 : decode cX2_countOdd 24 = .ok (.invokestatic 73, 3) := by decide +kernel
theorem dX2_countOdd_27 : decode cX2_countOdd 27 = .ok (.iconst 1, 1) := by decide +kernel
theorem dX2_countOdd_28 : decode cX2_countOdd 28 = .ok (.iand, 1) := by decide +kernel
theorem dX2_countOdd_29 : decode cX2_countOdd 29 = .ok (.iadd, 1) := by decide +kernel
theorem dX2_countOdd_30 : decode cX2_countOdd 30 = .ok (.istore_n 3, 1) := by decide +kernel
theorem dX2_countOdd_31 : decode cX2_countOdd 31 = .ok (.iinc 4 1, 3) := by decide +kernel
theorem dX2_countOdd_34 : decode cX2_countOdd 34 = .ok (.goto (-29), 3) := by decide +kernel
theorem dX2_countOdd_37 : decode cX2_countOdd 37 = .ok (.iload_n 3, 1) := by decide +kernel
theorem dX2_countOdd_38 : decode cX2_countOdd 38 = .ok (.ireturn, 1) := by decide +kernel
theorem dX2_oddMask_0 : decode cX2_oddMask 0 = .ok (.iconst 0, 1) := by decide +kernel
theorem dX2_oddMask_1 : decode cX2_oddMask 1 = .ok (.istore_n 3, 1) := by decide +kernel
theorem dX2_oddMask_2 : decode cX2_oddMask 2 = .ok (.iconst 0, 1) := by decide +kernel
theorem dX2_oddMask_3 : decode cX2_oddMask 3 = .ok (.istore 4, 2) := by decide +kernel
theorem dX2_oddMask_5 : decode cX2_oddMask 5 = .ok (.iload 4, 2) := by decide +kernel
theorem dX2_oddMask_7 : decode cX2_oddMask 7 = .ok (.aload_n 0, 1) := by decide +kernel
theorem dX2_oddMask_8 : decode cX2_oddMask 8 = .ok (.getfield 31, 3) := by decide +kernel
theorem dX2_oddMask_11 : decode cX2_oddMask 11 = .ok (.if_icmp .ge 30, 3) := by decide +kernel
theorem dX2_oddMask_14 : decode cX2_oddMask 14 = .ok (.lload_n 1, 1) := by decide +kernel
theorem dX2_oddMask_15 : decode cX2_oddMask 15 = .ok (.iload 4, 2) := by decide +kernel
theorem dX2_oddMask_17 : decode cX2_oddMask 17 = .ok (.lshr, 1) := by decide +kernel
theorem dX2_oddMask_18 : decode cX2_oddMask 18 = .ok (.lconst 1, 1) := by decide +kernel
theorem dX2_oddMask_19 : decode cX2_oddMask 19 = .ok (.land, 1) := by decide +kernel
theorem dX2_oddMask_20 : decode cX2_oddMask 20 = .ok (.lconst 0, 1) := by decide +kernel
theorem dX2_oddMask_21 : decode cX2_oddMask 21 = .ok (.lcmp, 1) := by decide +kernel
theorem dX2_oddMask_22 : decode cX2_oddMask 22 = .ok (.ifCond .eq 13, 3) := by decide +kernel
theorem dX2_oddMask_25 : decode cX2_oddMask 25 = .ok (.iload_n 3, 1) := by decide +kernel
theorem dX2_oddMask_26 : decode cX2_oddMask 26 = .ok (.aload_n 0, 1) := by decide +kernel
theorem dX2_oddMask_27 : decode cX2_oddMask 27 = .ok (.getfield 44, 3) := by decide +kernel
theorem dX2_oddMask_30 : decode cX2_oddMask 30 = .ok (.iload 4, 2) := by decide +kernel
theorem dX2_oddMask_32 : decode cX2_oddMask 32 = .ok (.iaload, 1) := by decide +kernel
theorem dX2_oddMask_33 : decode cX2_oddMask 33 = .ok (.ixor, 1) := by decide +kernel
theorem dX2_oddMask_34 : decode cX2_oddMask 34 = .ok (.istore_n 3, 1) := by decide +kernel
theorem dX2_oddMask_35 : decode cX2_oddMask 35 = .ok (.iinc 4 1, 3) := by decide +kernel
theorem dX2_oddMask_38 : decode cX2_oddMask 38 = .ok (.goto (-33), 3) := by decide +kernel
theorem dX2_oddMask_41 : decode cX2_oddMask 41 = .ok (.iload_n 3, 1) := by decide +kernel
theorem dX2_oddMask_42 : decode cX2_oddMask 42 = .ok (.ireturn, 1) := by decide +kernel
theorem dX2_isHeldBy_0 : decode cX2_isHeldBy 0 = .ok (.aload_n 0, 1) := by decide +kernel
theorem dX2_isHeldBy_1 : decode cX2_isHeldBy 1 = .ok (.getfield 44, 3) := by decide +kernel
theorem dX2_isHeldBy_4 : decode cX2_isHeldBy 4 = .ok (.iload_n 1, 1) := by decide +kernel
theorem dX2_isHeldBy_5 : decode cX2_isHeldBy 5 = .ok (.iaload, 1) := by decide +kernel
theorem dX2_isHeldBy_6 : decode cX2_isHeldBy 6 = .ok (.istore_n 3, 1) := by decide +kernel
theorem dX2_isHeldBy_7 : decode cX2_isHeldBy 7 = .ok (.iload_n 3, 1) := by decide +kernel
theorem dX2_isHeldBy_8 : decode cX2_isHeldBy 8 = .ok (.iload_n 2, 1) := by decide +kernel
theorem dX2_isHeldBy_9 : decode cX2_isHeldBy 9 = .ok (.iconst (-1), 1) := by decide +kernel
theorem dX2_isHeldBy_10 : decode cX2_isHeldBy 10 = .ok (.ixor, 1) := by decide +kernel
theorem dX2_isHeldBy_11 : decode cX2_isHeldBy 11 = .ok (.iand, 1) := by decide +kernel
theorem dX2_isHeldBy_12 : decode cX2_isHeldBy 12 = .ok (.invokestatic 94, 3) := by decide +kernel
theorem dX2_isHeldBy_15 : decode cX2_isHeldBy 15 = .ok (.iload_n 3, 1) := by decide +kernel
theorem dX2_isHeldBy_16 : decode cX2_isHeldBy 16 = .ok (.iload_n 2, 1) := by decide +kernel
theorem dX2_isHeldBy_17 : decode cX2_isHeldBy 17 = .ok (.iand, 1) := by decide +kernel
theorem dX2_isHeldBy_18 : decode cX2_isHeldBy 18 = .ok (.invokestatic 94, 3) := by decide +kernel
theorem dX2_isHeldBy_21 : decode cX2_isHeldBy 21 = .ok (.if_icmp .le 7, 3) := by decide +kernel
theorem dX2_isHeldBy_24 : decode cX2_isHeldBy 24 = .ok (.iconst 1, 1) := by decide +kernel
theorem dX2_isHeldBy_25 : decode cX2_isHeldBy 25 = .ok (.goto 4, 3) := by decide +kernel
theorem dX2_isHeldBy_28 : decode cX2_isHeldBy 28 = .ok (.iconst 0, 1) := by decide +kernel
theorem dX2_isHeldBy_29 : decode cX2_isHeldBy 29 = .ok (.ireturn, 1) := by decide +kernel
theorem dX2_columnsOf_0 : decode cX2_columnsOf 0 = .ok (.iconst 0, 1) := by decide +kernel
theorem dX2_columnsOf_1 : decode cX2_columnsOf 1 = .ok (.istore_n 2, 1) := by decide +kernel
theorem dX2_columnsOf_2 : decode cX2_columnsOf 2 = .ok (.iconst 0, 1) := by decide +kernel
theorem dX2_columnsOf_3 : decode cX2_columnsOf 3 = .ok (.istore_n 3, 1) := by decide +kernel
theorem dX2_columnsOf_4 : decode cX2_columnsOf 4 = .ok (.iload_n 3, 1) := by decide +kernel
theorem dX2_columnsOf_5 : decode cX2_columnsOf 5 = .ok (.aload_n 0, 1) := by decide +kernel
theorem dX2_columnsOf_6 : decode cX2_columnsOf 6 = .ok (.getfield 18, 3) := by decide +kernel
theorem dX2_columnsOf_9 : decode cX2_columnsOf 9 = .ok (.if_icmp .ge 29, 3) := by decide +kernel
theorem dX2_columnsOf_12 : decode cX2_columnsOf 12 = .ok (.aload_n 0, 1) := by decide +kernel
theorem dX2_columnsOf_13 : decode cX2_columnsOf 13 = .ok (.getfield 27, 3) := by decide +kernel
theorem dX2_columnsOf_16 : decode cX2_columnsOf 16 = .ok (.iload_n 1, 1) := by decide +kernel
theorem dX2_columnsOf_17 : decode cX2_columnsOf 17 = .ok (.bipush 8, 2) := by decide +kernel
theorem dX2_columnsOf_19 : decode cX2_columnsOf 19 = .ok (.imul, 1) := by decide +kernel
theorem dX2_columnsOf_20 : decode cX2_columnsOf 20 = .ok (.iload_n 3, 1) := by decide +kernel
theorem dX2_columnsOf_21 : decode cX2_columnsOf 21 = .ok (.iadd, 1) := by decide +kernel
theorem dX2_columnsOf_22 : decode cX2_columnsOf 22 = .ok (.iaload, 1) := by decide +kernel
theorem dX2_columnsOf_23 : decode cX2_columnsOf 23 = .ok (.ifCond .lt 9, 3) := by decide +kernel
theorem dX2_columnsOf_26 : decode cX2_columnsOf 26 = .ok (.iload_n 2, 1) := by decide +kernel
theorem dX2_columnsOf_27 : decode cX2_columnsOf 27 = .ok (.iconst 1, 1) := by decide +kernel
theorem dX2_columnsOf_28 : decode cX2_columnsOf 28 = .ok (.iload_n 3, 1) := by decide +kernel
theorem dX2_columnsOf_29 : decode cX2_columnsOf 29 = .ok (.ishl, 1) := by decide +kernel
theorem dX2_columnsOf_30 : decode cX2_columnsOf 30 = .ok (.ior, 1) := by decide +kernel
theorem dX2_columnsOf_31 : decode cX2_columnsOf 31 = .ok (.istore_n 2, 1) := by decide +kernel
theorem dX2_columnsOf_32 : decode cX2_columnsOf 32 = .ok (.iinc 3 1, 3) := by decide +kernel
theorem dX2_columnsOf_35 : decode cX2_columnsOf 35 = .ok (.goto (-31), 3) := by decide +kernel
theorem dX2_columnsOf_38 : decode cX2_columnsOf 38 = .ok (.iload_n 2, 1) := by decide +kernel
theorem dX2_columnsOf_39 : decode cX2_columnsOf 39 = .ok (.ireturn, 1) := by decide +kernel
theorem dX3_init_0 : decode cX3_init 0 = .ok (.aload_n 0, 1) := by decide +kernel
theorem dX3_init_1 : decode cX3_init 1 = .ok (.invokespecial 3, 3) := by decide +kernel
theorem dX3_init_4 : decode cX3_init 4 = .ok (.aload_n 0, 1) := by decide +kernel
theorem dX3_init_5 : decode cX3_init 5 = .ok (.iconst 4, 1) := by decide +kernel
theorem dX3_init_6 : decode cX3_init 6 = .ok (.newarray .int, 2) := by decide +kernel
theorem dX3_init_8 : decode cX3_init 8 = .ok (.putfield 9, 3) := by decide +kernel
theorem dX3_init_11 : decode cX3_init 11 = .ok (.aload_n 0, 1) := by decide +kernel
theorem dX3_init_12 : decode cX3_init 12 = .ok (.bipush 8, 2) := by decide +kernel
theorem dX3_init_14 : decode cX3_init 14 = .ok (.newarray .int, 2) := by decide +kernel
theorem dX3_init_16 : decode cX3_init 16 = .ok (.putfield 15, 3) := by decide +kernel
theorem dX3_init_19 : decode cX3_init 19 = .ok (.return_, 1) := by decide +kernel
theorem dX3_run_0 : decode cX3_run 0 = .ok (.aload_n 1, 1) := by decide +kernel
theorem dX3_run_1 : decode cX3_run 1 = .ok (.getfield 18, 3) := by decide +kernel
theorem dX3_run_4 : decode cX3_run 4 = .ok (.iload_n 2, 1) := by decide +kernel
theorem dX3_run_5 : decode cX3_run 5 = .ok (.aload_n 0, 1) := by decide +kernel
theorem dX3_run_6 : decode cX3_run 6 = .ok (.getfield 9, 3) := by decide +kernel
theorem dX3_run_9 : decode cX3_run 9 = .ok (.invokestatic 24, 3) := by decide +kernel
theorem dX3_run_12 : decode cX3_run 12 = .ok (.aload_n 0, 1) := by decide +kernel
theorem dX3_run_13 : decode cX3_run 13 = .ok (.getfield 15, 3) := by decide +kernel
theorem dX3_run_16 : decode cX3_run 16 = .ok (.iload_n 3, 1) := by decide +kernel
theorem dX3_run_17 : decode cX3_run 17 = .ok (.ineg, 1) := by decide +kernel
theorem dX3_run_18 : decode cX3_run 18 = .ok (.invokestatic 28, 3) := by decide +kernel
theorem dX3_run_21 : decode cX3_run 21 = .ok (.aload_n 0, 1) := by decide +kernel
theorem dX3_run_22 : decode cX3_run 22 = .ok (.iconst 0, 1) := by decide +kernel
theorem dX3_run_23 : decode cX3_run 23 = .ok (.putfield 34, 3) := by decide +kernel
theorem dX3_run_26 : decode cX3_run 26 = .ok (.iconst 0, 1) := by decide +kernel
theorem dX3_run_27 : decode cX3_run 27 = .ok (.istore 4, 2) := by decide +kernel
theorem dX3_run_29 : decode cX3_run 29 = .ok (.iload 4, 2) := by decide +kernel
theorem dX3_run_31 : decode cX3_run 31 = .ok (.iconst 3, 1) := by decide +kernel
theorem dX3_run_32 : decode cX3_run 32 = .ok (.if_icmp .ge 53, 3) := by decide +kernel
theorem dX3_run_35 : decode cX3_run 35 = .ok (.aload_n 0, 1) := by decide +kernel
theorem dX3_run_36 : decode cX3_run 36 = .ok (.iconst 0, 1) := by decide +kernel
theorem dX3_run_37 : decode cX3_run 37 = .ok (.putfield 37, 3) := by decide +kernel
theorem dX3_run_40 : decode cX3_run 40 = .ok (.aload_n 0, 1) := by decide +kernel
theorem dX3_run_41 : decode cX3_run 41 = .ok (.iconst 0, 1) := by decide +kernel
theorem dX3_run_42 : decode cX3_run 42 = .ok (.putfield 40, 3) := by decide +kernel
theorem dX3_run_45 : decode cX3_run 45 = .ok (.iconst 0, 1) := by decide +kernel
theorem dX3_run_46 : decode cX3_run 46 = .ok (.istore 5, 2) := by decide +kernel
theorem dX3_run_48 : decode cX3_run 48 = .ok (.iload 5, 2) := by decide +kernel
theorem dX3_run_50 : decode cX3_run 50 = .ok (.aload_n 1, 1) := by decide +kernel
theorem dX3_run_51 : decode cX3_run 51 = .ok (.getfield 18, 3) := by decide +kernel
theorem dX3_run_54 : decode cX3_run 54 = .ok (.if_icmp .ge 25, 3) := by decide +kernel
theorem dX3_run_57 : decode cX3_run 57 = .ok (.aload_n 0, 1) := by decide +kernel
theorem dX3_run_58 : decode cX3_run 58 = .ok (.aload_n 1, 1) := by decide +kernel
theorem dX3_run_59 : decode cX3_run 59 = .ok (.aload_n 0, 1) := by decide +kernel
theorem dX3_run_60 : decode cX3_run 60 = .ok (.getfield 9, 3) := by decide +kernel
theorem dX3_run_63 : decode cX3_run 63 = .ok (.iload 5, 2) := by decide +kernel
theorem dX3_run_65 : decode cX3_run 65 = .ok (.iaload, 1) := by decide +kernel
theorem dX3_run_66 : decode cX3_run 66 = .ok (.invokevirtual 43, 3) := by decide +kernel
theorem dX3_run_69 : decode cX3_run 69 = .ok (.iload_n 3, 1) := by decide +kernel
theorem dX3_run_70 : decode cX3_run 70 = .ok (.invokevirtual 47, 3) := by decide +kernel
theorem dX3_run_73 : decode cX3_run 73 = .ok (.iinc 5 1, 3) := by decide +kernel
theorem dX3_run_76 : decode cX3_run 76 = .ok (.goto (-28), 3) := by decide +kernel
theorem dX3_run_79 : decode cX3_run 79 = .ok (.iinc 4 1, 3) := by decide +kernel
theorem dX3_run_82 : decode cX3_run 82 = .ok (.goto (-53), 3) := by decide +kernel
theorem dX3_run_85 : decode cX3_run 85 = .ok (.return_, 1) := by decide +kernel
theorem dX3_runLayer_0 : decode cX3_runLayer 0 = .ok (.iload_n 1, 1) := by decide +kernel
theorem dX3_runLayer_1 : decode cX3_runLayer 1 = .ok (.istore_n 3, 1) := by decide +kernel
theorem dX3_runLayer_2 : decode cX3_runLayer 2 = .ok (.iconst 0, 1) := by decide +kernel
theorem dX3_runLayer_3 : decode cX3_runLayer 3 = .ok (.istore 4, 2) := by decide +kernel
theorem dX3_runLayer_5 : decode cX3_runLayer 5 = .ok (.iload 4, 2) := by decide +kernel
theorem dX3_runLayer_7 : decode cX3_runLayer 7 = .ok (.sipush 1000, 3) := by decide +kernel
theorem dX3_runLayer_10 : decode cX3_runLayer 10 = .ok (.if_icmp .ge 80, 3) := by decide +kernel
theorem dX3_runLayer_13 : decode cX3_runLayer 13 = .ok (.iload_n 3, 1) := by decide +kernel
theorem dX3_runLayer_14 : decode cX3_runLayer 14 = .ok (.ifCond .eq 76, 3) := by decide +kernel
theorem dX3_runLayer_17 : decode cX3_runLayer 17 = .ok (.aload_n 0, 1) := by decide +kernel
theorem dX3_runLayer_18 : decode cX3_runLayer 18 = .ok (.iload_n 3, 1) := by decide +kernel
theorem dX3_runLayer_19 : decode cX3_runLayer 19 = .ok (.iload_n 2, 1) := by decide +kernel
theorem dX3_runLayer_20 : decode cX3_runLayer 20 = .ok (.invokevirtual 51, 3) := by decide +kernel
theorem dX3_runLayer_23 : decode cX3_runLayer 23 = .ok (.istore 5, 2) := by decide +kernel
theorem dX3_runLayer_25 : decode cX3_runLayer 25 = .ok (.iload 5, 2) := by decide +kernel
theorem dX3_runLayer_27 : decode cX3_runLayer 27 = .ok (.iconst (-1), 1) := by decide +kernel
theorem dX3_runLayer_28 : decode cX3_runLayer 28 = .ok (.if_icmp .ne 16, 3) := by decide +kernel
theorem dX3_runLayer_31 : decode cX3_runLayer 31 = .ok (.aload_n 0, 1) := by decide +kernel
theorem dX3_runLayer_32 : decode cX3_runLayer 32 = .ok (.dup, 1) := by decide +kernel
theorem dX3_runLayer_33 : decode cX3_runLayer 33 = .ok (.getfield 40, 3) := by decide +kernel
theorem dX3_runLayer_36 : decode cX3_runLayer 36 = .ok (.iconst 1, 1) := by decide +kernel
theorem dX3_runLayer_37 : decode cX3_runLayer 37 = .ok (.iadd, 1) := by decide +kernel
theorem dX3_runLayer_38 : decode cX3_runLayer 38 = .ok (.putfield 40, 3) := by decide +kernel
theorem dX3_runLayer_41 : decode cX3_runLayer 41 = .ok (.goto 23, 3) := by decide +kernel
theorem dX3_runLayer_44 : decode cX3_runLayer 44 = .ok (.aload_n 0, 1) := by decide +kernel
theorem dX3_runLayer_45 : decode cX3_runLayer 45 = .ok (.getfield 15, 3) := by decide +kernel
theorem dX3_runLayer_48 : decode cX3_runLayer 48 = .ok (.iload 5, 2) := by decide +kernel
theorem dX3_runLayer_50 : decode cX3_runLayer 50 = .ok (.aload_n 0, 1) := by decide +kernel
theorem dX3_runLayer_51 : decode cX3_runLayer 51 = .ok (.getfield 34, 3) := by decide +kernel
theorem dX3_runLayer_54 : decode cX3_runLayer 54 = .ok (.iastore, 1) := by decide +kernel
theorem dX3_runLayer_55 : decode cX3_runLayer 55 = .ok (.iload_n 3, 1) := by decide +kernel
theorem dX3_runLayer_56 : decode cX3_runLayer 56 = .ok (.iconst 1, 1) := by decide +kernel
theorem dX3_runLayer_57 : decode cX3_runLayer 57 = .ok (.iload 5, 2) := by decide +kernel
theorem dX3_runLayer_59 : decode cX3_runLayer 59 = .ok (.ishl, 1) := by decide +kernel
theorem dX3_runLayer_60 : decode cX3_runLayer 60 = .ok (.iconst (-1), 1) := by decide +kernel
theorem dX3_runLayer_61 : decode cX3_runLayer 61 = .ok (.ixor, 1) := by decide +kernel
theorem dX3_runLayer_62 : decode cX3_runLayer 62 = .ok (.iand, 1) := by decide +kernel
theorem dX3_runLayer_63 : decode cX3_runLayer 63 = .ok (.istore_n 3, 1) := by decide +kernel
theorem dX3_runLayer_64 : decode cX3_runLayer 64 = .ok (.aload_n 0, 1) := by decide +kernel
theorem dX3_runLayer_65 : decode cX3_runLayer 65 = .ok (.dup, 1) := by decide +kernel
theorem dX3_runLayer_66 : decode cX3_runLayer 66 = .ok (.getfield 37, 3) := by decide +kernel
theorem dX3_runLayer_69 : decode cX3_runLayer 69 = .ok (.iconst 1, 1) := by decide +kernel
theorem dX3_runLayer_70 : decode cX3_runLayer 70 = .ok (.iadd, 1) := by decide +kernel
theorem dX3_runLayer_71 : decode cX3_runLayer 71 = .ok (.putfield 37, 3) := by decide +kernel
theorem dX3_runLayer_74 : decode cX3_runLayer 74 = .ok (.aload_n 0, 1) := by decide +kernel
theorem dX3_runLayer_75 : decode cX3_runLayer 75 = .ok (.dup, 1) := by decide +kernel
theorem dX3_runLayer_76 : decode cX3_runLayer 76 = .ok (.getfield 34, 3) := by decide +kernel
theorem dX3_runLayer_79 : decode cX3_runLayer 79 = .ok (.iconst 1, 1) := by decide +kernel
theorem dX3_runLayer_80 : decode cX3_runLayer 80 = .ok (.iadd, 1) := by decide +kernel
theorem dX3_runLayer_81 : decode cX3_runLayer 81 = .ok (.putfield 34, 3) := by decide +kernel
theorem dX3_runLayer_84 : decode cX3_runLayer 84 = .ok (.iinc 4 1, 3) := by decide +kernel
theorem dX3_runLayer_87 : decode cX3_runLayer 87 = .ok (.goto (-82), 3) := by decide +kernel
theorem dX3_runLayer_90 : decode cX3_runLayer 90 = .ok (.return_, 1) := by decide +kernel
theorem dX3_readyOf_0 : decode cX3_readyOf 0 = .ok (.iconst 0, 1) := by decide +kernel
theorem dX3_readyOf_1 : decode cX3_readyOf 1 = .ok (.istore_n 3, 1) := by decide +kernel
theorem dX3_readyOf_2 : decode cX3_readyOf 2 = .ok (.iload_n 3, 1) := by decide +kernel
theorem dX3_readyOf_3 : decode cX3_readyOf 3 = .ok (.bipush 8, 2) := by decide +kernel
theorem dX3_readyOf_5 : decode cX3_readyOf 5 = .ok (.if_icmp .ge 34, 3) := by decide +kernel
theorem dX3_readyOf_8 : decode cX3_readyOf 8 = .ok (.iload_n 1, 1) := by decide +kernel
theorem dX3_readyOf_9 : decode cX3_readyOf 9 = .ok (.iload_n 3, 1) := by decide +kernel
theorem dX3_readyOf_10 : decode cX3_readyOf 10 = .ok (.ishr, 1) := by decide +kernel
theorem dX3_readyOf_11 : decode cX3_readyOf 11 = .ok (.iconst 1, 1) := by decide +kernel
theorem dX3_readyOf_12 : decode cX3_readyOf 12 = .ok (.iand, 1) := by decide +kernel
theorem dX3_readyOf_13 : decode cX3_readyOf 13 = .ok (.ifCond .eq 20, 3) := by decide +kernel
theorem dX3_readyOf_16 : decode cX3_readyOf 16 = .ok (.aload_n 0, 1) := by decide +kernel
theorem dX3_readyOf_17 : decode cX3_readyOf 17 = .ok (.getfield 34, 3) := by decide +kernel
theorem dX3_readyOf_20 : decode cX3_readyOf 20 = .ok (.aload_n 0, 1) := by decide +kernel
theorem dX3_readyOf_21 : decode cX3_readyOf 21 = .ok (.getfield 15, 3) := by decide +kernel
theorem dX3_readyOf_24 : decode cX3_readyOf 24 = .ok (.iload_n 3, 1) := by decide +kernel
theorem dX3_readyOf_25 : decode cX3_readyOf 25 = .ok (.iaload, 1) := by decide +kernel
theorem dX3_readyOf_26 : decode cX3_readyOf 26 = .ok (.isub, 1) := by decide +kernel
theorem dX3_readyOf_27 : decode cX3_readyOf 27 = .ok (.iload_n 2, 1) := by decide +kernel
theorem dX3_readyOf_28 : decode cX3_readyOf 28 = .ok (.if_icmp .lt 5, 3) := by decide +kernel
theorem dX3_readyOf_31 : decode cX3_readyOf 31 = .ok (.iload_n 3, 1) := by decide +kernel
theorem dX3_readyOf_32 : decode cX3_readyOf 32 = .ok (.ireturn, 1) := by decide +kernel
theorem dX3_readyOf_33 : decode cX3_readyOf 33 = .ok (.iinc 3 1, 3) := by decide +kernel
theorem dX3_readyOf_36 : decode cX3_readyOf 36 = .ok (.goto (-34), 3) := by decide +kernel
theorem dX3_readyOf_39 : decode cX3_readyOf 39 = .ok (.iconst (-1), 1) := by decide +kernel
theorem dX3_readyOf_40 : decode cX3_readyOf 40 = .ok (.ireturn, 1) := by decide +kernel
theorem dX3_countClashes_0 : decode cX3_countClashes 0 = .ok (.aload_n 1, 1) := by decide +kernel
theorem dX3_countClashes_1 : decode cX3_countClashes 1 = .ok (.getfield 18, 3) := by decide +kernel
theorem dX3_countClashes_4 : decode cX3_countClashes 4 = .ok (.iconst 2, 1) := by decide +kernel
theorem dX3_countClashes_5 : decode cX3_countClashes 5 = .ok (.if_icmp .ge 5, 3) := by decide +kernel
theorem dX3_countClashes_8 : decode cX3_countClashes 8 = .ok (.iconst 0, 1) := by decide +kernel
theorem dX3_countClashes_9 : decode cX3_countClashes 9 = .ok (.ireturn, 1) := by decide +kernel
theorem dX3_countClashes_10 : decode cX3_countClashes 10 = .ok (.aload_n 1, 1) := by decide +kernel
theorem dX3_countClashes_11 : decode cX3_countClashes 11 = .ok (.getfield 18, 3) := by decide +kernel
theorem dX3_countClashes_14 : decode cX3_countClashes 14 = .ok (.iload_n 2, 1) := by decide +kernel
theorem dX3_countClashes_15 : decode cX3_countClashes 15 = .ok (.aload_n 0, 1) := by decide +kernel
theorem dX3_countClashes_16 : decode cX3_countClashes 16 = .ok (.getfield 9, 3) := by decide +kernel
theorem dX3_countClashes_19 : decode cX3_countClashes 19 = .ok (.invokestatic 24, 3) := by decide +kernel
theorem dX3_countClashes_22 : decode cX3_countClashes 22 = .ok (.iconst 0, 1) := by decide +kernel
theorem dX3_countClashes_23 : decode cX3_countClashes 23 = .ok (.istore_n 3, 1) := by decide +kernel
theorem dX3_countClashes_24 : decode cX3_countClashes 24 = .ok (.iconst 0, 1) := by decide +kernel
theorem dX3_countClashes_25 : decode cX3_countClashes 25 = .ok (.istore 4, 2) := by decide +kernel
theorem dX3_countClashes_27 : decode cX3_countClashes 27 = .ok (.iload 4, 2) := by decide +kernel
theorem dX3_countClashes_29 : decode cX3_countClashes 29 = .ok (.aload_n 1, 1) := by decide +kernel
theorem dX3_countClashes_30 : decode cX3_countClashes 30 = .ok (.getfield 18, 3) := by decide +kernel
theorem dX3_countClashes_33 : decode cX3_countClashes 33 = .ok (.if_icmp .ge 59, 3) := by decide +kernel
theorem dX3_countClashes_36 : decode cX3_countClashes 36 = .ok (.iload 4, 2) := by decide +kernel
theorem dX3_countClashes_38 : decode cX3_countClashes 38 = .ok (.iconst 1, 1) := by decide +kernel
theorem dX3_countClashes_39 : decode cX3_countClashes 39 = .ok (.iadd, 1) := by decide +kernel
theorem dX3_countClashes_40 : decode cX3_countClashes 40 = .ok (.aload_n 1, 1) := by decide +kernel
theorem dX3_countClashes_41 : decode cX3_countClashes 41 = .ok (.getfield 18, 3) := by decide +kernel
theorem dX3_countClashes_44 : decode cX3_countClashes 44 = .ok (.if_icmp .ge 10, 3) := by decide +kernel
theorem dX3_countClashes_47 : decode cX3_countClashes 47 = .ok (.iload 4, 2) := by decide +kernel
theorem dX3_countClashes_49 : decode cX3_countClashes 49 = .ok (.iconst 1, 1) := by decide +kernel
theorem dX3_countClashes_50 : decode cX3_countClashes 50 = .ok (.iadd, 1) := by decide +kernel
theorem dX3_countClashes_51 : decode cX3_countClashes 51 = .ok (.goto 4, 3) := by decide +kernel
theorem dX3_countClashes_54 : decode cX3_countClashes 54 = .ok (.iconst 0, 1) := by decide +kernel
theorem dX3_countClashes_55 : decode cX3_countClashes 55 = .ok (.istore 5, 2) := by decide +kernel
theorem dX3_countClashes_57 : decode cX3_countClashes 57 = .ok (.iload_n 3, 1) := by decide +kernel
theorem dX3_countClashes_58 : decode cX3_countClashes 58 = .ok (.aload_n 1, 1) := by decide +kernel
theorem dX3_countClashes_59 : decode cX3_countClashes 59 = .ok (.aload_n 0, 1) := by decide +kernel
theorem dX3_countClashes_60 : decode cX3_countClashes 60 = .ok (.getfield 9, 3) := by decide +kernel
theorem dX3_countClashes_63 : decode cX3_countClashes 63 = .ok (.iload 4, 2) := by decide +kernel
theorem dX3_countClashes_65 : decode cX3_countClashes 65 = .ok (.iaload, 1) := by decide +kernel
theorem dX3_countClashes_66 : decode cX3_countClashes 66 = .ok (.invokevirtual 43, 3) := by decide +kernel
theorem dX3_countClashes_69 : decode cX3_countClashes 69 = .ok (.aload_n 1, 1) := by decide +kernel
theorem dX3_countClashes_70 : decode cX3_countClashes 70 = .ok (.aload_n 0, 1) := by decide +kernel
theorem dX3_countClashes_71 : decode cX3_countClashes 71 = .ok (.getfield 9, 3) := by decide +kernel
theorem dX3_countClashes_74 : decode cX3_countClashes 74 = .ok (.iload 5, 2) := by decide +kernel
theorem dX3_countClashes_76 : decode cX3_countClashes 76 = .ok (.iaload, 1) := by decide +kernel
theorem dX3_countClashes_77 : decode cX3_countClashes 77 = .ok (.invokevirtual 43, 3) := by decide +kernel
theorem dX3_countClashes_80 : decode cX3_countClashes 80 = .ok (.iand, 1) := by decide +kernel
theorem dX3_countClashes_81 : decode cX3_countClashes 81 = .ok (.invokestatic 55, 3) := by decide +kernel
theorem dX3_countClashes_84 : decode cX3_countClashes 84 = .ok (.iadd, 1) := by decide +kernel
theorem dX3_countClashes_85 : decode cX3_countClashes 85 = .ok (.istore_n 3, 1) := by decide +kernel
theorem dX3_countClashes_86 : decode cX3_countClashes 86 = .ok (.iinc 4 1, 3) := by decide +kernel
theorem dX3_countClashes_89 : decode cX3_countClashes 89 = .ok (.goto (-62), 3) := by decide +kernel
theorem dX3_countClashes_92 : decode cX3_countClashes 92 = .ok (.iload_n 3, 1) := by decide +kernel
theorem dX3_countClashes_93 : decode cX3_countClashes 93 = .ok (.ireturn, 1) := by decide +kernel
theorem dX4_way_0 : decode cX4_way 0 = .ok (.lconst 1, 1) := by decide +kernel
theorem dX4_way_1 : decode cX4_way 1 = .ok (.iload_n 1, 1) := by decide +kernel
theorem dX4_way_2 : decode cX4_way 2 = .ok (.lshl, 1) := by decide +kernel
theorem dX4_way_3 : decode cX4_way 3 = .ok (.lstore 5, 2) := by decide +kernel
theorem dX4_way_5 : decode cX4_way 5 = .ok (.lload 5, 2) := by decide +kernel
theorem dX4_way_7 : decode cX4_way 7 = .ok (.lload_n 2, 1) := by decide +kernel
theorem dX4_way_8 : decode cX4_way 8 = .ok (.land, 1) := by decide +kernel
theorem dX4_way_9 : decode cX4_way 9 = .ok (.lconst 0, 1) := by decide +kernel
theorem dX4_way_10 : decode cX4_way 10 = .ok (.lcmp, 1) := by decide +kernel
theorem dX4_way_11 : decode cX4_way 11 = .ok (.ifCond .eq 5, 3) := by decide +kernel
theorem dX4_way_14 : decode cX4_way 14 = .ok (.iconst 0, 1) := by decide +kernel
theorem dX4_way_15 : decode cX4_way 15 = .ok (.ireturn, 1) := by decide +kernel
theorem dX4_way_16 : decode cX4_way 16 = .ok (.iconst 1, 1) := by decide +kernel
theorem dX4_way_17 : decode cX4_way 17 = .ok (.istore 7, 2) := by decide +kernel
theorem dX4_way_19 : decode cX4_way 19 = .ok (.iload 7, 2) := by decide +kernel
theorem dX4_way_21 : decode cX4_way 21 = .ok (.aload_n 0, 1) := by decide +kernel
theorem dX4_way_22 : decode cX4_way 22 = .ok (.getfield 9, 3) := by decide +kernel
theorem dX4_way_25 : decode cX4_way 25 = .ok (.if_icmp .gt 91, 3) := by decide +kernel
theorem dX4_way_28 : decode cX4_way 28 = .ok (.lload 5, 2) := by decide +kernel
theorem dX4_way_30 : decode cX4_way 30 = .ok (.lstore 8, 2) := by decide +kernel
theorem dX4_way_32 : decode cX4_way 32 = .ok (.iconst 0, 1) := by decide +kernel
theorem dX4_way_33 : decode cX4_way 33 = .ok (.istore 10, 2) := by decide +kernel
theorem dX4_way_35 : decode cX4_way 35 = .ok (.iload 10, 2) := by decide +kernel
theorem dX4_way_37 : decode cX4_way 37 = .ok (.aload_n 0, 1) := by decide +kernel
theorem dX4_way_38 : decode cX4_way 38 = .ok (.getfield 9, 3) := by decide +kernel
theorem dX4_way_41 : decode cX4_way 41 = .ok (.if_icmp .ge 43, 3) := by decide +kernel
theorem dX4_way_44 : decode cX4_way 44 = .ok (.iload 10, 2) := by decide +kernel
theorem dX4_way_46 : decode cX4_way 46 = .ok (.iload 4, 2) := by decide +kernel
theorem dX4_way_48 : decode cX4_way 48 = .ok (.if_icmp .eq 30, 3) := by decide +kernel
theorem dX4_way_51 : decode cX4_way 51 = .ok (.aload_n 0, 1) := by decide +kernel
theorem dX4_way_52 : decode cX4_way 52 = .ok (.getfield 15, 3) := by decide +kernel
theorem dX4_way_55 : decode cX4_way 55 = .ok (.iload 10, 2) := by decide +kernel
theorem dX4_way_57 : decode cX4_way 57 = .ok (.laload, 1) := by decide +kernel
theorem dX4_way_58 : decode cX4_way 58 = .ok (.lload 5, 2) := by decide +kernel
theorem dX4_way_60 : decode cX4_way 60 = .ok (.land, 1) := by decide +kernel
theorem dX4_way_61 : decode cX4_way 61 = .ok (.lconst 0, 1) := by decide +kernel
theorem dX4_way_62 : decode cX4_way 62 = .ok (.lcmp, 1) := by decide +kernel
theorem dX4_way_63 : decode cX4_way 63 = .ok (.ifCond .eq 15, 3) := by decide +kernel
theorem dX4_way_66 : decode cX4_way 66 = .ok (.lload 8, 2) := by decide +kernel
theorem dX4_way_68 : decode cX4_way 68 = .ok (.aload_n 0, 1) := by decide +kernel
theorem dX4_way_69 : decode cX4_way 69 = .ok (.getfield 15, 3) := by decide +kernel
theorem dX4_way_72 : decode cX4_way 72 = .ok (.iload 10, 2) := by decide +kernel
theorem dX4_way_74 : decode cX4_way 74 = .ok (.laload, 1) := by decide +kernel
theorem dX4_way_75 : decode cX4_way 75 = .ok (.lor, 1) := by decide +kernel
theorem dX4_way_76 : decode cX4_way 76 = .ok (.lstore 8, 2) := by decide +kernel
theorem dX4_way_78 : decode cX4_way 78 = .ok (.iinc 10 1, 3) := by decide +kernel
theorem dX4_way_81 : decode cX4_way 81 = .ok (.goto (-46), 3) := by decide +kernel
theorem dX4_way_84 : decode cX4_way 84 = .ok (.lload 8, 2) := by decide +kernel
theorem dX4_way_86 : decode cX4_way 86 = .ok (.lload_n 2, 1) := by decide +kernel
theorem dX4_way_87 : decode cX4_way 87 = .ok (.land, 1) := by decide +kernel
theorem dX4_way_88 : decode cX4_way 88 = .ok (.lconst 0, 1) := by decide +kernel
theorem dX4_way_89 : decode cX4_way 89 = .ok (.lcmp, 1) := by decide +kernel
theorem dX4_way_90 : decode cX4_way 90 = .ok (.ifCond .eq 6, 3) := by decide +kernel
theorem dX4_way_93 : decode cX4_way 93 = .ok (.iload 7, 2) := by decide +kernel
theorem dX4_way_95 : decode cX4_way 95 = .ok (.ireturn, 1) := by decide +kernel
theorem dX4_way_96 : decode cX4_way 96 = .ok (.lload 8, 2) := by decide +kernel
theorem dX4_way_98 : decode cX4_way 98 = .ok (.lload 5, 2) := by decide +kernel
theorem dX4_way_100 : decode cX4_way 100 = .ok (.lcmp, 1) := by decide +kernel
theorem dX4_way_101 : decode cX4_way 101 = .ok (.ifCond .ne 5, 3) := by decide +kernel
theorem dX4_way_104 : decode cX4_way 104 = .ok (.iconst (-1), 1) := by decide +kernel
theorem dX4_way_105 : decode cX4_way 105 = .ok (.ireturn, 1) := by decide +kernel
theorem dX4_way_106 : decode cX4_way 106 = .ok (.lload 8, 2) := by decide +kernel
theorem dX4_way_108 : decode cX4_way 108 = .ok (.lstore 5, 2) := by decide +kernel
theorem dX4_way_110 : decode cX4_way 110 = .ok (.iinc 7 1, 3) := by decide +kernel
theorem dX4_way_113 : decode cX4_way 113 = .ok (.goto (-94), 3) := by decide +kernel
theorem dX4_way_116 : decode cX4_way 116 = .ok (.iconst (-1), 1) := by decide +kernel
theorem dX4_way_117 : decode cX4_way 117 = .ok (.ireturn, 1) := by decide +kernel
theorem dX4_shortestRing_0 : decode cX4_shortestRing 0 = .ok (.iconst (-1), 1) := by decide +kernel
theorem dX4_shortestRing_1 : decode cX4_shortestRing 1 = .ok (.istore_n 1, 1) := by decide +kernel
theorem dX4_shortestRing_2 : decode cX4_shortestRing 2 = .ok (.iconst 0, 1) := by decide +kernel
theorem dX4_shortestRing_3 : decode cX4_shortestRing 3 = .ok (.istore_n 2, 1) := by decide +kernel
theorem dX4_shortestRing_4 : decode cX4_shortestRing 4 = .ok (.iload_n 2, 1) := by decide +kernel
theorem dX4_shortestRing_5 : decode cX4_shortestRing 5 = .ok (.aload_n 0, 1) := by decide +kernel
theorem dX4_shortestRing_6 : decode cX4_shortestRing 6 = .ok (.getfield 9, 3) := by decide +kernel
theorem dX4_shortestRing_9 : decode cX4_shortestRing 9 = .ok (.if_icmp .ge 98, 3) := by decide +kernel
theorem dX4_shortestRing_12 : decode cX4_shortestRing 12 = .ok (.iconst 0, 1) := by decide +kernel
theorem dX4_shortestRing_13 : decode cX4_shortestRing 13 = .ok (.istore_n 3, 1) := by decide +kernel
theorem dX4_shortestRing_14 : decode cX4_shortestRing 14 = .ok (.iload_n 3, 1) := by decide +kernel
theorem dX4_shortestRing_15 : decode cX4_shortestRing 15 = .ok (.aload_n 0, 1) := by decide +kernel
theorem dX4_shortestRing_16 : decode cX4_shortestRing 16 = .ok (.getfield 19, 3) := by decide +kernel
theorem dX4_shortestRing_19 : decode cX4_shortestRing 19 = .ok (.if_icmp .ge 82, 3) := by decide +kernel
theorem dX4_shortestRing_22 : decode cX4_shortestRing 22 = .ok (.aload_n 0, 1) := by decide +kernel
theorem dX4_shortestRing_23 : decode cX4_shortestRing 23 = .ok (.getfield 22, 3) := by decide +kernel
theorem dX4_shortestRing_26 : decode cX4_shortestRing 26 = .ok (.iload_n 2, 1) := by decide +kernel
theorem dX4_shortestRing_27 : decode cX4_shortestRing 27 = .ok (.bipush 8, 2) := by decide +kernel
theorem dX4_shortestRing_29 : decode cX4_shortestRing 29 = .ok (.imul, 1) := by decide +kernel
theorem dX4_shortestRing_30 : decode cX4_shortestRing 30 = .ok (.iload_n 3, 1) := by decide +kernel
theorem dX4_shortestRing_31 : decode cX4_shortestRing 31 = .ok (.iadd, 1) := by decide +kernel
theorem dX4_shortestRing_32 : decode cX4_shortestRing 32 = .ok (.iaload, 1) := by decide +kernel
theorem dX4_shortestRing_33 : decode cX4_shortestRing 33 = .ok (.istore 4, 2) := by decide +kernel
theorem dX4_shortestRing_35 : decode cX4_shortestRing 35 = .ok (.iload 4, 2) := by decide +kernel
theorem dX4_shortestRing_37 : decode cX4_shortestRing 37 = .ok (.ifCond .ge 6, 3) := by decide +kernel
theorem dX4_shortestRing_40 : decode cX4_shortestRing 40 = .ok (.goto 55, 3) := by decide +kernel
theorem dX4_shortestRing_43 : decode cX4_shortestRing 43 = .ok (.aload_n 0, 1) := by decide +kernel
theorem dX4_shortestRing_44 : decode cX4_shortestRing 44 = .ok (.iload 4, 2) := by decide +kernel
theorem dX4_shortestRing_46 : decode cX4_shortestRing 46 = .ok (.aload_n 0, 1) := by decide +kernel
theorem dX4_shortestRing_47 : decode cX4_shortestRing 47 = .ok (.getfield 15, 3) := by decide +kernel
theorem dX4_shortestRing_50 : decode cX4_shortestRing 50 = .ok (.iload_n 2, 1) := by decide +kernel
theorem dX4_shortestRing_51 : decode cX4_shortestRing 51 = .ok (.laload, 1) := by decide +kernel
theorem dX4_shortestRing_52 : decode cX4_shortestRing 52 = .ok (.lconst 1, 1) := by decide +kernel
theorem dX4_shortestRing_53 : decode cX4_shortestRing 53 = .ok (.iload 4, 2) := by decide +kernel
theorem dX4_shortestRing_55 : decode cX4_shortestRing 55 = .ok (.lshl, 1) := by decide +kernel
theorem dX4_shortestRing_56 : decode cX4_shortestRing 56 = .ok (.ldc2_w 26, 3) := by decide +kernel
theorem dX4_shortestRing_59 : decode cX4_shortestRing 59 = .ok (.lxor, 1) := by decide +kernel
theorem dX4_shortestRing_60 : decode cX4_shortestRing 60 = .ok (.land, 1) := by decide +kernel
theorem dX4_shortestRing_61 : decode cX4_shortestRing 61 = .ok (.iload_n 2, 1) := by decide +kernel
theorem dX4_shortestRing_62 : decode cX4_shortestRing 62 = .ok (.invokestatic 28, 3) := by decide +kernel
theorem dX4_shortestRing_65 : decode cX4_shortestRing 65 = .ok (.istore 5, 2) := by decide +kernel
theorem dX4_shortestRing_67 : decode cX4_shortestRing 67 = .ok (.iload 5, 2) := by decide +kernel
theorem dX4_shortestRing_69 : decode cX4_shortestRing 69 = .ok (.iconst (-1), 1) := by decide +kernel
theorem dX4_shortestRing_70 : decode cX4_shortestRing 70 = .ok (.if_icmp .eq 25, 3) := by decide +kernel
theorem dX4_shortestRing_73 : decode cX4_shortestRing 73 = .ok (.iload_n 1, 1) := by decide +kernel
theorem dX4_shortestRing_74 : decode cX4_shortestRing 74 = .ok (.iconst (-1), 1) := by decide +kernel
theorem dX4_shortestRing_75 : decode cX4_shortestRing 75 = .ok (.if_icmp .eq 13, 3) := by decide +kernel
theorem dX4_shortestRing_78 : decode cX4_shortestRing 78 = .ok (.iconst 2, 1) := by decide +kernel
theorem dX4_shortestRing_79 : decode cX4_shortestRing 79 = .ok (.iload 5, 2) := by decide +kernel
theorem dX4_shortestRing_81 : decode cX4_shortestRing 81 = .ok (.imul, 1) := by decide +kernel
theorem dX4_shortestRing_82 : decode cX4_shortestRing 82 = .ok (.iconst 2, 1) := by decide +kernel
theorem dX4_shortestRing_83 : decode cX4_shortestRing 83 = .ok (.iadd, 1) := by decide +kernel
theorem dX4_shortestRing_84 : decode cX4_shortestRing 84 = .ok (.iload_n 1, 1) := by decide +kernel
theorem dX4_shortestRing_85 : decode cX4_shortestRing 85 = .ok (.if_icmp .ge 10, 3) := by decide +kernel
theorem dX4_shortestRing_88 : decode cX4_shortestRing 88 = .ok (.iconst 2, 1) := by decide +kernel
theorem dX4_shortestRing_89 : decode cX4_shortestRing 89 = .ok (.iload 5, 2) := by decide +kernel
theorem dX4_shortestRing_91 : decode cX4_shortestRing 91 = .ok (.imul, 1) := by decide +kernel
theorem dX4_shortestRing_92 : decode cX4_shortestRing 92 = .ok (.iconst 2, 1) := by decide +kernel
theorem dX4_shortestRing_93 : decode cX4_shortestRing 93 = .ok (.iadd, 1) := by decide +kernel
theorem dX4_shortestRing_94 : decode cX4_shortestRing 94 = .ok (.istore_n 1, 1) := by decide +kernel
theorem dX4_shortestRing_95 : decode cX4_shortestRing 95 = .ok (.iinc 3 1, 3) := by decide +kernel
theorem dX4_shortestRing_98 : decode cX4_shortestRing 98 = .ok (.goto (-84), 3) := by decide +kernel
theorem dX4_shortestRing_101 : decode cX4_shortestRing 101 = .ok (.iinc 2 1, 3) := by decide +kernel
theorem dX4_shortestRing_104 : decode cX4_shortestRing 104 = .ok (.goto (-100), 3) := by decide +kernel
theorem dX4_shortestRing_107 : decode cX4_shortestRing 107 = .ok (.iload_n 1, 1) := by decide +kernel
theorem dX4_shortestRing_108 : decode cX4_shortestRing 108 = .ok (.ireturn, 1) := by decide +kernel
theorem dX4_countFours_0 : decode cX4_countFours 0 = .ok (.iconst 0, 1) := by decide +kernel
theorem dX4_countFours_1 : decode cX4_countFours 1 = .ok (.istore_n 1, 1) := by decide +kernel
theorem dX4_countFours_2 : decode cX4_countFours 2 = .ok (.iconst 0, 1) := by decide +kernel
theorem dX4_countFours_3 : decode cX4_countFours 3 = .ok (.istore_n 2, 1) := by decide +kernel
theorem dX4_countFours_4 : decode cX4_countFours 4 = .ok (.iload_n 2, 1) := by decide +kernel
theorem dX4_countFours_5 : decode cX4_countFours 5 = .ok (.aload_n 0, 1) := by decide +kernel
theorem dX4_countFours_6 : decode cX4_countFours 6 = .ok (.getfield 9, 3) := by decide +kernel
theorem dX4_countFours_9 : decode cX4_countFours 9 = .ok (.if_icmp .ge 57, 3) := by decide +kernel
theorem dX4_countFours_12 : decode cX4_countFours 12 = .ok (.iload_n 2, 1) := by decide +kernel
theorem dX4_countFours_13 : decode cX4_countFours 13 = .ok (.iconst 1, 1) := by decide +kernel
theorem dX4_countFours_14 : decode cX4_countFours 14 = .ok (.iadd, 1) := by decide +kernel
theorem dX4_countFours_15 : decode cX4_countFours 15 = .ok (.istore_n 3, 1) := by decide +kernel
theorem dX4_countFours_16 : decode cX4_countFours 16 = .ok (.iload_n 3, 1) := by decide +kernel
theorem dX4_countFours_17 : decode cX4_countFours 17 = .ok (.aload_n 0, 1) := by decide +kernel
theorem dX4_countFours_18 : decode cX4_countFours 18 = .ok (.getfield 9, 3) := by decide +kernel
theorem dX4_countFours_21 : decode cX4_countFours 21 = .ok (.if_icmp .ge 39, 3) := by decide +kernel
theorem dX4_countFours_24 : decode cX4_countFours 24 = .ok (.aload_n 0, 1) := by decide +kernel
theorem dX4_countFours_25 : decode cX4_countFours 25 = .ok (.getfield 15, 3) := by decide +kernel
theorem dX4_countFours_28 : decode cX4_countFours 28 = .ok (.iload_n 2, 1) := by decide +kernel
theorem dX4_countFours_29 : decode cX4_countFours 29 = .ok (.laload, 1) := by decide +kernel
theorem dX4_countFours_30 : decode cX4_countFours 30 = .ok (.aload_n 0, 1) := by decide +kernel
theorem dX4_countFours_31 : decode cX4_countFours 31 = .ok (.getfield 15, 3) := by decide +kernel
theorem dX4_countFours_34 : decode cX4_countFours 34 = .ok (.iload_n 3, 1) := by decide +kernel
theorem dX4_countFours_35 : decode cX4_countFours 35 = .ok (.laload, 1) := by decide +kernel
theorem dX4_countFours_36 : decode cX4_countFours 36 = .ok (.land, 1) := by decide +kernel
theorem dX4_countFours_37 : decode cX4_countFours 37 = .ok (.invokestatic 34, 3) := by decide +kernel
theorem dX4_countFours_40 : decode cX4_countFours 40 = .ok (.istore 4, 2) := by decide +kernel
theorem dX4_countFours_42 : decode cX4_countFours 42 = .ok (.iload_n 1, 1) := by decide +kernel
theorem dX4_countFours_43 : decode cX4_countFours 43 = .ok (.iload 4, 2) := by decide +kernel
theorem dX4_countFours_45 : decode cX4_countFours 45 = .ok (.iload 4, 2) := by decide +kernel
theorem dX4_countFours_47 : decode cX4_countFours 47 = .ok (.iconst 1, 1) := by decide +kernel
theorem dX4_countFours_48 : decode cX4_countFours 48 = .ok (.isub, 1) := by decide +kernel
theorem dX4_countFours_49 : decode cX4_countFours 49 = .ok (.imul, 1) := by decide +kernel
theorem dX4_countFours_50 : decode cX4_countFours 50 = .ok (.iconst 2, 1) := by decide +kernel
theorem dX4_countFours_51 : decode cX4_countFours 51 = .ok (.idiv, 1) := by decide +kernel
theorem dX4_countFours_52 : decode cX4_countFours 52 = .ok (.iadd, 1) := by decide +kernel
theorem dX4_countFours_53 : decode cX4_countFours 53 = .ok (.istore_n 1, 1) := by decide +kernel
theorem dX4_countFours_54 : decode cX4_countFours 54 = .ok (.iinc 3 1, 3) := by decide +kernel
theorem dX4_countFours_57 : decode cX4_countFours 57 = .ok (.goto (-41), 3) := by decide +kernel
theorem dX4_countFours_60 : decode cX4_countFours 60 = .ok (.iinc 2 1, 3) := by decide +kernel
theorem dX4_countFours_63 : decode cX4_countFours 63 = .ok (.goto (-59), 3) := by decide +kernel
theorem dX4_countFours_66 : decode cX4_countFours 66 = .ok (.iload_n 1, 1) := by decide +kernel
theorem dX4_countFours_67 : decode cX4_countFours 67 = .ok (.ireturn, 1) := by decide +kernel
theorem dX4_countSixes_0 : decode cX4_countSixes 0 = .ok (.iconst 0, 1) := by decide +kernel
theorem dX4_countSixes_1 : decode cX4_countSixes 1 = .ok (.istore_n 1, 1) := by decide +kernel
theorem dX4_countSixes_2 : decode cX4_countSixes 2 = .ok (.iconst 0, 1) := by decide +kernel
theorem dX4_countSixes_3 : decode cX4_countSixes 3 = .ok (.istore_n 2, 1) := by decide +kernel
theorem dX4_countSixes_4 : decode cX4_countSixes 4 = .ok (.iload_n 2, 1) := by decide +kernel
theorem dX4_countSixes_5 : decode cX4_countSixes 5 = .ok (.aload_n 0, 1) := by decide +kernel
theorem dX4_countSixes_6 : decode cX4_countSixes 6 = .ok (.getfield 9, 3) := by decide +kernel
theorem dX4_countSixes_9 : decode cX4_countSixes 9 = .ok (.if_icmp .ge 72, 3) := by decide +kernel
theorem dX4_countSixes_12 : decode cX4_countSixes 12 = .ok (.iload_n 2, 1) := by decide +kernel
theorem dX4_countSixes_13 : decode cX4_countSixes 13 = .ok (.iconst 1, 1) := by decide +kernel
theorem dX4_countSixes_14 : decode cX4_countSixes 14 = .ok (.iadd, 1) := by decide +kernel
theorem dX4_countSixes_15 : decode cX4_countSixes 15 = .ok (.istore_n 3, 1) := by decide +kernel
theorem dX4_countSixes_16 : decode cX4_countSixes 16 = .ok (.iload_n 3, 1) := by decide +kernel
theorem dX4_countSixes_17 : decode cX4_countSixes 17 = .ok (.aload_n 0, 1) := by decide +kernel
theorem dX4_countSixes_18 : decode cX4_countSixes 18 = .ok (.getfield 9, 3) := by decide +kernel
theorem dX4_countSixes_21 : decode cX4_countSixes 21 = .ok (.if_icmp .ge 54, 3) := by decide +kernel
theorem dX4_countSixes_24 : decode cX4_countSixes 24 = .ok (.iload_n 3, 1) := by decide +kernel
theorem dX4_countSixes_25 : decode cX4_countSixes 25 = .ok (.iconst 1, 1) := by decide +kernel
theorem dX4_countSixes_26 : decode cX4_countSixes 26 = .ok (.iadd, 1) := by decide +kernel
theorem dX4_countSixes_27 : decode cX4_countSixes 27 = .ok (.istore 4, 2) := by decide +kernel
theorem dX4_countSixes_29 : decode cX4_countSixes 29 = .ok (.iload 4, 2) := by decide +kernel
theorem dX4_countSixes_31 : decode cX4_countSixes 31 = .ok (.aload_n 0, 1) := by decide +kernel
theorem dX4_countSixes_32 : decode cX4_countSixes 32 = .ok (.getfield 9, 3) := by decide +kernel
theorem dX4_countSixes_35 : decode cX4_countSixes 35 = .ok (.if_icmp .ge 34, 3) := by decide +kernel
theorem dX4_countSixes_38 : decode cX4_countSixes 38 = .ok (.iload_n 1, 1) := by decide +kernel
theorem dX4_countSixes_39 : decode cX4_countSixes 39 = .ok (.aload_n 0, 1) := by decide +kernel
theorem dX4_countSixes_40 : decode cX4_countSixes 40 = .ok (.getfield 15, 3) := by decide +kernel
theorem dX4_countSixes_43 : decode cX4_countSixes 43 = .ok (.iload_n 2, 1) := by decide +kernel
theorem dX4_countSixes_44 : decode cX4_countSixes 44 = .ok (.laload, 1) := by decide +kernel
theorem dX4_countSixes_45 : decode cX4_countSixes 45 = .ok (.aload_n 0, 1) := by decide +kernel
theorem dX4_countSixes_46 : decode cX4_countSixes 46 = .ok (.getfield 15, 3) := by decide +kernel
theorem dX4_countSixes_49 : decode cX4_countSixes 49 = .ok (.iload_n 3, 1) := by decide +kernel
theorem dX4_countSixes_50 : decode cX4_countSixes 50 = .ok (.laload, 1) := by decide +kernel
theorem dX4_countSixes_51 : decode cX4_countSixes 51 = .ok (.aload_n 0, 1) := by decide +kernel
theorem dX4_countSixes_52 : decode cX4_countSixes 52 = .ok (.getfield 15, 3) := by decide +kernel
theorem dX4_countSixes_55 : decode cX4_countSixes 55 = .ok (.iload 4, 2) := by decide +kernel
theorem dX4_countSixes_57 : decode cX4_countSixes 57 = .ok (.laload, 1) := by decide +kernel
theorem dX4_countSixes_58 : decode cX4_countSixes 58 = .ok (.invokestatic 40, 3) := by decide +kernel
theorem dX4_countSixes_61 : decode cX4_countSixes 61 = .ok (.iadd, 1) := by decide +kernel
theorem dX4_countSixes_62 : decode cX4_countSixes 62 = .ok (.istore_n 1, 1) := by decide +kernel
theorem dX4_countSixes_63 : decode cX4_countSixes 63 = .ok (.iinc 4 1, 3) := by decide +kernel
theorem dX4_countSixes_66 : decode cX4_countSixes 66 = .ok (.goto (-37), 3) := by decide +kernel
theorem dX4_countSixes_69 : decode cX4_countSixes 69 = .ok (.iinc 3 1, 3) := by decide +kernel
theorem dX4_countSixes_72 : decode cX4_countSixes 72 = .ok (.goto (-56), 3) := by decide +kernel
theorem dX4_countSixes_75 : decode cX4_countSixes 75 = .ok (.iinc 2 1, 3) := by decide +kernel
theorem dX4_countSixes_78 : decode cX4_countSixes 78 = .ok (.goto (-74), 3) := by decide +kernel
theorem dX4_countSixes_81 : decode cX4_countSixes 81 = .ok (.iload_n 1, 1) := by decide +kernel
theorem dX4_countSixes_82 : decode cX4_countSixes 82 = .ok (.ireturn, 1) := by decide +kernel
theorem dX4_sixesOf_0 : decode cX4_sixesOf 0 = .ok (.lload_n 0, 1) := by decide +kernel
theorem dX4_sixesOf_1 : decode cX4_sixesOf 1 = .ok (.lload_n 2, 1) := by decide +kernel
theorem dX4_sixesOf_2 : decode cX4_sixesOf 2 = .ok (.land, 1) := by decide +kernel
theorem dX4_sixesOf_3 : decode cX4_sixesOf 3 = .ok (.invokestatic 34, 3) := by decide +kernel
theorem dX4_sixesOf_6 : decode cX4_sixesOf 6 = .ok (.istore 6, 2) := by decide +kernel
theorem dX4_sixesOf_8 : decode cX4_sixesOf 8 = .ok (.lload_n 2, 1) := by decide +kernel
theorem dX4_sixesOf_9 : decode cX4_sixesOf 9 = .ok (.lload 4, 2) := by decide +kernel
theorem dX4_sixesOf_11 : decode cX4_sixesOf 11 = .ok (.land, 1) := by decide +kernel
theorem dX4_sixesOf_12 : decode cX4_sixesOf 12 = .ok (.invokestatic 34, 3) := by decide +kernel
theorem dX4_sixesOf_15 : decode cX4_sixesOf 15 = .ok (.istore 7, 2) := by decide +kernel
theorem dX4_sixesOf_17 : decode cX4_sixesOf 17 = .ok (.lload_n 0, 1) := by decide +kernel
theorem dX4_sixesOf_18 : decode cX4_sixesOf 18 = .ok (.lload 4, 2) := by decide +kernel
theorem dX4_sixesOf_20 : decode cX4_sixesOf 20 = .ok (.land, 1) := by decide +kernel
theorem dX4_sixesOf_21 : decode cX4_sixesOf 21 = .ok (.invokestatic 34, 3) := by decide +kernel
theorem dX4_sixesOf_24 : decode cX4_sixesOf 24 = .ok (.istore 8, 2) := by decide +kernel
theorem dX4_sixesOf_26 : decode cX4_sixesOf 26 = .ok (.lload_n 0, 1) := by decide +kernel
theorem dX4_sixesOf_27 : decode cX4_sixesOf 27 = .ok (.lload_n 2, 1) := by decide +kernel
theorem dX4_sixesOf_28 : decode cX4_sixesOf 28 = .ok (.land, 1) := by decide +kernel
theorem dX4_sixesOf_29 : decode cX4_sixesOf 29 = .ok (.lload 4, 2) := by decide +kernel
theorem dX4_sixesOf_31 : decode cX4_sixesOf 31 = .ok (.land, 1) := by decide +kernel
theorem dX4_sixesOf_32 : decode cX4_sixesOf 32 = .ok (.invokestatic 34, 3) := by decide +kernel
theorem dX4_sixesOf_35 : decode cX4_sixesOf 35 = .ok (.istore 9, 2) := by decide +kernel
theorem dX4_sixesOf_37 : decode cX4_sixesOf 37 = .ok (.iload 6, 2) := by decide +kernel
theorem dX4_sixesOf_39 : decode cX4_sixesOf 39 = .ok (.iload 7, 2) := by decide +kernel
theorem dX4_sixesOf_41 : decode cX4_sixesOf 41 = .ok (.imul, 1) := by decide +kernel
theorem dX4_sixesOf_42 : decode cX4_sixesOf 42 = .ok (.iload 8, 2) := by decide +kernel
theorem dX4_sixesOf_44 : decode cX4_sixesOf 44 = .ok (.imul, 1) := by decide +kernel
theorem dX4_sixesOf_45 : decode cX4_sixesOf 45 = .ok (.iload 9, 2) := by decide +kernel
theorem dX4_sixesOf_47 : decode cX4_sixesOf 47 = .ok (.iload 6, 2) := by decide +kernel
theorem dX4_sixesOf_49 : decode cX4_sixesOf 49 = .ok (.iload 7, 2) := by decide +kernel
theorem dX4_sixesOf_51 : decode cX4_sixesOf 51 = .ok (.iadd, 1) := by decide +kernel
theorem dX4_sixesOf_52 : decode cX4_sixesOf 52 = .ok (.iload 8, 2) := by decide +kernel
theorem dX4_sixesOf_54 : decode cX4_sixesOf 54 = .ok (.iadd, 1) := by decide +kernel
theorem dX4_sixesOf_55 : decode cX4_sixesOf 55 = .ok (.imul, 1) := by decide +kernel
theorem dX4_sixesOf_56 : decode cX4_sixesOf 56 = .ok (.isub, 1) := by decide +kernel
theorem dX4_sixesOf_57 : decode cX4_sixesOf 57 = .ok (.iconst 2, 1) := by decide +kernel
theorem dX4_sixesOf_58 : decode cX4_sixesOf 58 = .ok (.iload 9, 2) := by decide +kernel
theorem dX4_sixesOf_60 : decode cX4_sixesOf 60 = .ok (.imul, 1) := by decide +kernel
theorem dX4_sixesOf_61 : decode cX4_sixesOf 61 = .ok (.iadd, 1) := by decide +kernel
theorem dX4_sixesOf_62 : decode cX4_sixesOf 62 = .ok (.ireturn, 1) := by decide +kernel
theorem dX4_countPieces_0 : decode cX4_countPieces 0 = .ok (.iconst 0, 1) := by decide +kernel
theorem dX4_countPieces_1 : decode cX4_countPieces 1 = .ok (.istore_n 1, 1) := by decide +kernel
theorem dX4_countPieces_2 : decode cX4_countPieces 2 = .ok (.lconst 0, 1) := by decide +kernel
theorem dX4_countPieces_3 : decode cX4_countPieces 3 = .ok (.lstore_n 2, 1) := by decide +kernel
theorem dX4_countPieces_4 : decode cX4_countPieces 4 = .ok (.iconst 0, 1) := by decide +kernel
theorem dX4_countPieces_5 : decode cX4_countPieces 5 = .ok (.istore 4, 2) := by decide +kernel
theorem dX4_countPieces_7 : decode cX4_countPieces 7 = .ok (.iload 4, 2) := by decide +kernel
theorem dX4_countPieces_9 : decode cX4_countPieces 9 = .ok (.aload_n 0, 1) := by decide +kernel
theorem dX4_countPieces_10 : decode cX4_countPieces 10 = .ok (.getfield 44, 3) := by decide +kernel
theorem dX4_countPieces_13 : decode cX4_countPieces 13 = .ok (.if_icmp .ge 32, 3) := by decide +kernel
theorem dX4_countPieces_16 : decode cX4_countPieces 16 = .ok (.lload_n 2, 1) := by decide +kernel
theorem dX4_countPieces_17 : decode cX4_countPieces 17 = .ok (.iload 4, 2) := by decide +kernel
theorem dX4_countPieces_19 : decode cX4_countPieces 19 = .ok (.lshr, 1) := by decide +kernel
theorem dX4_countPieces_20 : decode cX4_countPieces 20 = .ok (.lconst 1, 1) := by decide +kernel
theorem dX4_countPieces_21 : decode cX4_countPieces 21 = .ok (.land, 1) := by decide +kernel
theorem dX4_countPieces_22 : decode cX4_countPieces 22 = .ok (.lconst 0, 1) := by decide +kernel
theorem dX4_countPieces_23 : decode cX4_countPieces 23 = .ok (.lcmp, 1) := by decide +kernel
theorem dX4_countPieces_24 : decode cX4_countPieces 24 = .ok (.ifCond .ne 15, 3) := by decide +kernel
theorem dX4_countPieces_27 : decode cX4_countPieces 27 = .ok (.lload_n 2, 1) := by decide +kernel
theorem dX4_countPieces_28 : decode cX4_countPieces 28 = .ok (.aload_n 0, 1) := by decide +kernel
theorem dX4_countPieces_29 : decode cX4_countPieces 29 = .ok (.iload 4, 2) := by decide +kernel
theorem dX4_countPieces_31 : decode cX4_countPieces 31 = .ok (.invokestatic 47, 3) := by decide +kernel
theorem dX4_countPieces_34 : decode cX4_countPieces 34 = .ok (.lor, 1) := by decide +kernel
theorem dX4_countPieces_35 : decode cX4_countPieces 35 = .ok (.lstore_n 2, 1) := by decide +kernel
theorem dX4_countPieces_36 : decode cX4_countPieces 36 = .ok (.iinc 1 1, 3) := by decide +kernel
theorem dX4_countPieces_39 : decode cX4_countPieces 39 = .ok (.iinc 4 1, 3) := by decide +kernel
theorem dX4_countPieces_42 : decode cX4_countPieces 42 = .ok (.goto (-35), 3) := by decide +kernel
theorem dX4_countPieces_45 : decode cX4_countPieces 45 = .ok (.iload_n 1, 1) := by decide +kernel
theorem dX4_countPieces_46 : decode cX4_countPieces 46 = .ok (.ireturn, 1) := by decide +kernel
theorem dX4_pieceOf_0 : decode cX4_pieceOf 0 = .ok (.lconst 1, 1) := by decide +kernel
theorem dX4_pieceOf_1 : decode cX4_pieceOf 1 = .ok (.iload_n 1, 1) := by decide +kernel
theorem dX4_pieceOf_2 : decode cX4_pieceOf 2 = .ok (.lshl, 1) := by decide +kernel
theorem dX4_pieceOf_3 : decode cX4_pieceOf 3 = .ok (.lstore_n 2, 1) := by decide +kernel
theorem dX4_pieceOf_4 : decode cX4_pieceOf 4 = .ok (.lconst 0, 1) := by decide +kernel
theorem dX4_pieceOf_5 : decode cX4_pieceOf 5 = .ok (.lstore 4, 2) := by decide +kernel
theorem dX4_pieceOf_7 : decode cX4_pieceOf 7 = .ok (.iconst 0, 1) := by decide +kernel
theorem dX4_pieceOf_8 : decode cX4_pieceOf 8 = .ok (.istore 6, 2) := by decide +kernel
theorem dX4_pieceOf_10 : decode cX4_pieceOf 10 = .ok (.iload 6, 2) := by decide +kernel
theorem dX4_pieceOf_12 : decode cX4_pieceOf 12 = .ok (.aload_n 0, 1) := by decide +kernel
theorem dX4_pieceOf_13 : decode cX4_pieceOf 13 = .ok (.getfield 9, 3) := by decide +kernel
theorem dX4_pieceOf_16 : decode cX4_pieceOf 16 = .ok (.if_icmp .gt 61, 3) := by decide +kernel
theorem dX4_pieceOf_19 : decode cX4_pieceOf 19 = .ok (.lload_n 2, 1) := by decide +kernel
theorem dX4_pieceOf_20 : decode cX4_pieceOf 20 = .ok (.lload 4, 2) := by decide +kernel
theorem dX4_pieceOf_22 : decode cX4_pieceOf 22 = .ok (.lcmp, 1) := by decide +kernel
theorem dX4_pieceOf_23 : decode cX4_pieceOf 23 = .ok (.ifCond .eq 54, 3) := by decide +kernel
theorem dX4_pieceOf_26 : decode cX4_pieceOf 26 = .ok (.lload_n 2, 1) := by decide +kernel
theorem dX4_pieceOf_27 : decode cX4_pieceOf 27 = .ok (.lstore 4, 2) := by decide +kernel
theorem dX4_pieceOf_29 : decode cX4_pieceOf 29 = .ok (.iconst 0, 1) := by decide +kernel
theorem dX4_pieceOf_30 : decode cX4_pieceOf 30 = .ok (.istore 7, 2) := by decide +kernel
theorem dX4_pieceOf_32 : decode cX4_pieceOf 32 = .ok (.iload 7, 2) := by decide +kernel
theorem dX4_pieceOf_34 : decode cX4_pieceOf 34 = .ok (.aload_n 0, 1) := by decide +kernel
theorem dX4_pieceOf_35 : decode cX4_pieceOf 35 = .ok (.getfield 9, 3) := by decide +kernel
theorem dX4_pieceOf_38 : decode cX4_pieceOf 38 = .ok (.if_icmp .ge 33, 3) := by decide +kernel
theorem dX4_pieceOf_41 : decode cX4_pieceOf 41 = .ok (.aload_n 0, 1) := by decide +kernel
theorem dX4_pieceOf_42 : decode cX4_pieceOf 42 = .ok (.getfield 15, 3) := by decide +kernel
theorem dX4_pieceOf_45 : decode cX4_pieceOf 45 = .ok (.iload 7, 2) := by decide +kernel
theorem dX4_pieceOf_47 : decode cX4_pieceOf 47 = .ok (.laload, 1) := by decide +kernel
theorem dX4_pieceOf_48 : decode cX4_pieceOf 48 = .ok (.lload_n 2, 1) := by decide +kernel
theorem dX4_pieceOf_49 : decode cX4_pieceOf 49 = .ok (.land, 1) := by decide +kernel
theorem dX4_pieceOf_50 : decode cX4_pieceOf 50 = .ok (.lconst 0, 1) := by decide +kernel
theorem dX4_pieceOf_51 : decode cX4_pieceOf 51 = .ok (.lcmp, 1) := by decide +kernel
theorem dX4_pieceOf_52 : decode cX4_pieceOf 52 = .ok (.ifCond .eq 13, 3) := by decide +kernel
theorem dX4_pieceOf_55 : decode cX4_pieceOf 55 = .ok (.lload_n 2, 1) := by decide +kernel
theorem dX4_pieceOf_56 : decode cX4_pieceOf 56 = .ok (.aload_n 0, 1) := by decide +kernel
theorem dX4_pieceOf_57 : decode cX4_pieceOf 57 = .ok (.getfield 15, 3) := by decide +kernel
theorem dX4_pieceOf_60 : decode cX4_pieceOf 60 = .ok (.iload 7, 2) := by decide +kernel
theorem dX4_pieceOf_62 : decode cX4_pieceOf 62 = .ok (.laload, 1) := by decide +kernel
theorem dX4_pieceOf_63 : decode cX4_pieceOf 63 = .ok (.lor, 1) := by decide +kernel
theorem dX4_pieceOf_64 : decode cX4_pieceOf 64 = .ok (.lstore_n 2, 1) := by decide +kernel
theorem dX4_pieceOf_65 : decode cX4_pieceOf 65 = .ok (.iinc 7 1, 3) := by decide +kernel
theorem dX4_pieceOf_68 : decode cX4_pieceOf 68 = .ok (.goto (-36), 3) := by decide +kernel
theorem dX4_pieceOf_71 : decode cX4_pieceOf 71 = .ok (.iinc 6 1, 3) := by decide +kernel
theorem dX4_pieceOf_74 : decode cX4_pieceOf 74 = .ok (.goto (-64), 3) := by decide +kernel
theorem dX4_pieceOf_77 : decode cX4_pieceOf 77 = .ok (.lload_n 2, 1) := by decide +kernel
theorem dX4_pieceOf_78 : decode cX4_pieceOf 78 = .ok (.lreturn, 1) := by decide +kernel
theorem dX4_peel_0 : decode cX4_peel 0 = .ok (.lload_n 1, 1) := by decide +kernel
theorem dX4_peel_1 : decode cX4_peel 1 = .ok (.lstore_n 3, 1) := by decide +kernel
theorem dX4_peel_2 : decode cX4_peel 2 = .ok (.iconst 0, 1) := by decide +kernel
theorem dX4_peel_3 : decode cX4_peel 3 = .ok (.istore 5, 2) := by decide +kernel
theorem dX4_peel_5 : decode cX4_peel 5 = .ok (.iload 5, 2) := by decide +kernel
theorem dX4_peel_7 : decode cX4_peel 7 = .ok (.aload_n 0, 1) := by decide +kernel
theorem dX4_peel_8 : decode cX4_peel 8 = .ok (.getfield 44, 3) := by decide +kernel
theorem dX4_peel_11 : decode cX4_peel 11 = .ok (.if_icmp .ge 83, 3) := by decide +kernel
theorem dX4_peel_14 : decode cX4_peel 14 = .ok (.lconst 0, 1) := by decide +kernel
theorem dX4_peel_15 : decode cX4_peel 15 = .ok (.lstore 6, 2) := by decide +kernel
theorem dX4_peel_17 : decode cX4_peel 17 = .ok (.iconst 0, 1) := by decide +kernel
theorem dX4_peel_18 : decode cX4_peel 18 = .ok (.istore 8, 2) := by decide +kernel
theorem dX4_peel_20 : decode cX4_peel 20 = .ok (.iload 8, 2) := by decide +kernel
theorem dX4_peel_22 : decode cX4_peel 22 = .ok (.aload_n 0, 1) := by decide +kernel
theorem dX4_peel_23 : decode cX4_peel 23 = .ok (.getfield 9, 3) := by decide +kernel
theorem dX4_peel_26 : decode cX4_peel 26 = .ok (.if_icmp .ge 44, 3) := by decide +kernel
theorem dX4_peel_29 : decode cX4_peel 29 = .ok (.lload 6, 2) := by decide +kernel
theorem dX4_peel_31 : decode cX4_peel 31 = .ok (.lconst 0, 1) := by decide +kernel
theorem dX4_peel_32 : decode cX4_peel 32 = .ok (.lcmp, 1) := by decide +kernel
theorem dX4_peel_33 : decode cX4_peel 33 = .ok (.ifCond .ne 37, 3) := by decide +kernel
theorem dX4_peel_36 : decode cX4_peel 36 = .ok (.aload_n 0, 1) := by decide +kernel
theorem dX4_peel_37 : decode cX4_peel 37 = .ok (.getfield 15, 3) := by decide +kernel
theorem dX4_peel_40 : decode cX4_peel 40 = .ok (.iload 8, 2) := by decide +kernel
theorem dX4_peel_42 : decode cX4_peel 42 = .ok (.laload, 1) := by decide +kernel
theorem dX4_peel_43 : decode cX4_peel 43 = .ok (.lload_n 3, 1) := by decide +kernel
theorem dX4_peel_44 : decode cX4_peel 44 = .ok (.land, 1) := by decide +kernel
theorem dX4_peel_45 : decode cX4_peel 45 = .ok (.lstore 9, 2) := by decide +kernel
theorem dX4_peel_47 : decode cX4_peel 47 = .ok (.lload 9, 2) := by decide +kernel
theorem dX4_peel_49 : decode cX4_peel 49 = .ok (.invokestatic 34, 3) := by decide +kernel
theorem dX4_peel_52 : decode cX4_peel 52 = .ok (.iconst 1, 1) := by decide +kernel
theorem dX4_peel_53 : decode cX4_peel 53 = .ok (.if_icmp .ne 8, 3) := by decide +kernel
theorem dX4_peel_56 : decode cX4_peel 56 = .ok (.lload 9, 2) := by decide +kernel
theorem dX4_peel_58 : decode cX4_peel 58 = .ok (.goto 4, 3) := by decide +kernel
theorem dX4_peel_61 : decode cX4_peel 61 = .ok (.lconst 0, 1) := by decide +kernel
theorem dX4_peel_62 : decode cX4_peel 62 = .ok (.lstore 6, 2) := by decide +kernel
theorem dX4_peel_64 : decode cX4_peel 64 = .ok (.iinc 8 1, 3) := by decide +kernel
theorem dX4_peel_67 : decode cX4_peel 67 = .ok (.goto (-47), 3) := by decide +kernel
theorem dX4_peel_70 : decode cX4_peel 70 = .ok (.lload 6, 2) := by decide +kernel
theorem dX4_peel_72 : decode cX4_peel 72 = .ok (.lconst 0, 1) := by decide +kernel
theorem dX4_peel_73 : decode cX4_peel 73 = .ok (.lcmp, 1) := by decide +kernel
theorem dX4_peel_74 : decode cX4_peel 74 = .ok (.ifCond .ne 5, 3) := by decide +kernel
theorem dX4_peel_77 : decode cX4_peel 77 = .ok (.lload_n 3, 1) := by decide +kernel
theorem dX4_peel_78 : decode cX4_peel 78 = .ok (.lreturn, 1) := by decide +kernel
theorem dX4_peel_79 : decode cX4_peel 79 = .ok (.lload_n 3, 1) := by decide +kernel
theorem dX4_peel_80 : decode cX4_peel 80 = .ok (.lload 6, 2) := by decide +kernel
theorem dX4_peel_82 : decode cX4_peel 82 = .ok (.ldc2_w 26, 3) := by decide +kernel
theorem dX4_peel_85 : decode cX4_peel 85 = .ok (.lxor, 1) := by decide +kernel
theorem dX4_peel_86 : decode cX4_peel 86 = .ok (.land, 1) := by decide +kernel
theorem dX4_peel_87 : decode cX4_peel 87 = .ok (.lstore_n 3, 1) := by decide +kernel
theorem dX4_peel_88 : decode cX4_peel 88 = .ok (.iinc 5 1, 3) := by decide +kernel
theorem dX4_peel_91 : decode cX4_peel 91 = .ok (.goto (-86), 3) := by decide +kernel
theorem dX4_peel_94 : decode cX4_peel 94 = .ok (.lload_n 3, 1) := by decide +kernel
theorem dX4_peel_95 : decode cX4_peel 95 = .ok (.lreturn, 1) := by decide +kernel
theorem dX5_init_0 : decode cX5_init 0 = .ok (.aload_n 0, 1) := by decide +kernel
theorem dX5_init_1 : decode cX5_init 1 = .ok (.invokespecial 3, 3) := by decide +kernel
theorem dX5_init_4 : decode cX5_init 4 = .ok (.aload_n 0, 1) := by decide +kernel
theorem dX5_init_5 : decode cX5_init 5 = .ok (.new 9, 3) := by decide +kernel
theorem dX5_init_8 : decode cX5_init 8 = .ok (.dup, 1) := by decide +kernel
theorem dX5_init_9 : decode cX5_init 9 = .ok (.invokespecial 11, 3) := by decide +kernel
theorem dX5_init_12 : decode cX5_init 12 = .ok (.putfield 12, 3) := by decide +kernel
theorem dX5_init_15 : decode cX5_init 15 = .ok (.aload_n 0, 1) := by decide +kernel
theorem dX5_init_16 : decode cX5_init 16 = .ok (.iconst 4, 1) := by decide +kernel
theorem dX5_init_17 : decode cX5_init 17 = .ok (.anewarray 18, 3) := by decide +kernel
theorem dX5_init_20 : decode cX5_init 20 = .ok (.putfield 20, 3) := by decide +kernel
theorem dX5_init_23 : decode cX5_init 23 = .ok (.aload_n 0, 1) := by decide +kernel
theorem dX5_init_24 : decode cX5_init 24 = .ok (.new 24, 3) := by decide +kernel
theorem dX5_init_27 : decode cX5_init 27 = .ok (.dup, 1) := by decide +kernel
theorem dX5_init_28 : decode cX5_init 28 = .ok (.aload_n 1, 1) := by decide +kernel
theorem dX5_init_29 : decode cX5_init 29 = .ok (.invokespecial 26, 3) := by decide +kernel
theorem dX5_init_32 : decode cX5_init 32 = .ok (.putfield 29, 3) := by decide +kernel
theorem dX5_init_35 : decode cX5_init 35 = .ok (.aload_n 0, 1) := by decide +kernel
theorem dX5_init_36 : decode cX5_init 36 = .ok (.getfield 29, 3) := by decide +kernel
theorem dX5_init_39 : decode cX5_init 39 = .ok (.aload_n 1, 1) := by decide +kernel
theorem dX5_init_40 : decode cX5_init 40 = .ok (.invokevirtual 33, 3) := by decide +kernel
theorem dX5_init_43 : decode cX5_init 43 = .ok (.return_, 1) := by decide +kernel
theorem dX5_copyFrom_0 : decode cX5_copyFrom 0 = .ok (.aload_n 0, 1) := by decide +kernel
theorem dX5_copyFrom_1 : decode cX5_copyFrom 1 = .ok (.getfield 29, 3) := by decide +kernel
theorem dX5_copyFrom_4 : decode cX5_copyFrom 4 = .ok (.aload_n 1, 1) := by decide +kernel
theorem dX5_copyFrom_5 : decode cX5_copyFrom 5 = .ok (.getfield 29, 3) := by decide +kernel
theorem dX5_copyFrom_8 : decode cX5_copyFrom 8 = .ok (.invokevirtual 36, 3) := by decide +kernel
theorem dX5_copyFrom_11 : decode cX5_copyFrom 11 = .ok (.aload_n 0, 1) := by decide +kernel
theorem dX5_copyFrom_12 : decode cX5_copyFrom 12 = .ok (.getfield 12, 3) := by decide +kernel
theorem dX5_copyFrom_15 : decode cX5_copyFrom 15 = .ok (.aload_n 1, 1) := by decide +kernel
theorem dX5_copyFrom_16 : decode cX5_copyFrom 16 = .ok (.getfield 12, 3) := by decide +kernel
theorem dX5_copyFrom_19 : decode cX5_copyFrom 19 = .ok (.invokevirtual 40, 3) := by decide +kernel
theorem dX5_copyFrom_22 : decode cX5_copyFrom 22 = .ok (.aload_n 0, 1) := by decide +kernel
theorem dX5_copyFrom_23 : decode cX5_copyFrom 23 = .ok (.aload_n 1, 1) := by decide +kernel
theorem dX5_copyFrom_24 : decode cX5_copyFrom 24 = .ok (.getfield 43, 3) := by decide +kernel
theorem dX5_copyFrom_27 : decode cX5_copyFrom 27 = .ok (.putfield 43, 3) := by decide +kernel
theorem dX5_copyFrom_30 : decode cX5_copyFrom 30 = .ok (.iconst 0, 1) := by decide +kernel
theorem dX5_copyFrom_31 : decode cX5_copyFrom 31 = .ok (.istore_n 2, 1) := by decide +kernel
theorem dX5_copyFrom_32 : decode cX5_copyFrom 32 = .ok (.iload_n 2, 1) := by decide +kernel
theorem dX5_copyFrom_33 : decode cX5_copyFrom 33 = .ok (.iconst 4, 1) := by decide +kernel
theorem dX5_copyFrom_34 : decode cX5_copyFrom 34 = .ok (.if_icmp .ge 21, 3) := by decide +kernel
theorem dX5_copyFrom_37 : decode cX5_copyFrom 37 = .ok (.aload_n 0, 1) := by decide +kernel
theorem dX5_copyFrom_38 : decode cX5_copyFrom 38 = .ok (.getfield 20, 3) := by decide +kernel
theorem dX5_copyFrom_41 : decode cX5_copyFrom 41 = .ok (.iload_n 2, 1) := by decide +kernel
theorem dX5_copyFrom_42 : decode cX5_copyFrom 42 = .ok (.aload_n 1, 1) := by decide +kernel
theorem dX5_copyFrom_43 : decode cX5_copyFrom 43 = .ok (.getfield 20, 3) := by decide +kernel
theorem dX5_copyFrom_46 : decode cX5_copyFrom 46 = .ok (.iload_n 2, 1) := by decide +kernel
theorem dX5_copyFrom_47 : decode cX5_copyFrom 47 = .ok (.aaload, 1) := by decide +kernel
theorem dX5_copyFrom_48 : decode cX5_copyFrom 48 = .ok (.aastore, 1) := by decide +kernel
theorem dX5_copyFrom_49 : decode cX5_copyFrom 49 = .ok (.iinc 2 1, 3) := by decide +kernel
theorem dX5_copyFrom_52 : decode cX5_copyFrom 52 = .ok (.goto (-20), 3) := by decide +kernel
theorem dX5_copyFrom_55 : decode cX5_copyFrom 55 = .ok (.return_, 1) := by decide +kernel
theorem dX6_init_0 : decode cX6_init 0 = .ok (.aload_n 0, 1) := by decide +kernel
theorem dX6_init_1 : decode cX6_init 1 = .ok (.invokespecial 3, 3) := by decide +kernel
theorem dX6_init_4 : decode cX6_init 4 = .ok (.aload_n 0, 1) := by decide +kernel
theorem dX6_init_5 : decode cX6_init 5 = .ok (.bipush 20, 2) := by decide +kernel
theorem dX6_init_7 : decode cX6_init 7 = .ok (.anewarray 9, 3) := by decide +kernel
theorem dX6_init_10 : decode cX6_init 10 = .ok (.putfield 11, 3) := by decide +kernel
theorem dX6_init_13 : decode cX6_init 13 = .ok (.return_, 1) := by decide +kernel
theorem dX6_put_0 : decode cX6_put 0 = .ok (.aload_n 0, 1) := by decide +kernel
theorem dX6_put_1 : decode cX6_put 1 = .ok (.getfield 17, 3) := by decide +kernel
theorem dX6_put_4 : decode cX6_put 4 = .ok (.bipush 20, 2) := by decide +kernel
theorem dX6_put_6 : decode cX6_put 6 = .ok (.if_icmp .ne 26, 3) := by decide +kernel
theorem dX6_put_9 : decode cX6_put 9 = .ok (.aload_n 0, 1) := by decide +kernel
theorem dX6_put_10 : decode cX6_put 10 = .ok (.aload_n 0, 1) := by decide +kernel
theorem dX6_put_11 : decode cX6_put 11 = .ok (.getfield 21, 3) := by decide +kernel
theorem dX6_put_14 : decode cX6_put 14 = .ok (.iconst 1, 1) := by decide +kernel
theorem dX6_put_15 : decode cX6_put 15 = .ok (.iadd, 1) := by decide +kernel
theorem dX6_put_16 : decode cX6_put 16 = .ok (.bipush 20, 2) := by decide +kernel
theorem dX6_put_18 : decode cX6_put 18 = .ok (.irem, 1) := by decide +kernel
theorem dX6_put_19 : decode cX6_put 19 = .ok (.putfield 21, 3) := by decide +kernel
theorem dX6_put_22 : decode cX6_put 22 = .ok (.aload_n 0, 1) := by decide +kernel
theorem dX6_put_23 : decode cX6_put 23 = .ok (.dup, 1) := by decide +kernel
theorem dX6_put_24 : decode cX6_put 24 = .ok (.getfield 17, 3) := by decide +kernel
theorem dX6_put_27 : decode cX6_put 27 = .ok (.iconst 1, 1) := by decide +kernel
theorem dX6_put_28 : decode cX6_put 28 = .ok (.isub, 1) := by decide +kernel
theorem dX6_put_29 : decode cX6_put 29 = .ok (.putfield 17, 3) := by decide +kernel
theorem dX6_put_32 : decode cX6_put 32 = .ok (.aload_n 0, 1) := by decide +kernel
theorem dX6_put_33 : decode cX6_put 33 = .ok (.aload_n 0, 1) := by decide +kernel
theorem dX6_put_34 : decode cX6_put 34 = .ok (.getfield 21, 3) := by decide +kernel
theorem dX6_put_37 : decode cX6_put 37 = .ok (.aload_n 0, 1) := by decide +kernel
theorem dX6_put_38 : decode cX6_put 38 = .ok (.getfield 17, 3) := by decide +kernel
theorem dX6_put_41 : decode cX6_put 41 = .ok (.iadd, 1) := by decide +kernel
theorem dX6_put_42 : decode cX6_put 42 = .ok (.bipush 20, 2) := by decide +kernel
theorem dX6_put_44 : decode cX6_put 44 = .ok (.irem, 1) := by decide +kernel
theorem dX6_put_45 : decode cX6_put 45 = .ok (.aload_n 1, 1) := by decide +kernel
theorem dX6_put_46 : decode cX6_put 46 = .ok (.invokevirtual 24, 3) := by decide +kernel
theorem dX6_put_49 : decode cX6_put 49 = .ok (.aload_n 0, 1) := by decide +kernel
theorem dX6_put_50 : decode cX6_put 50 = .ok (.dup, 1) := by decide +kernel
theorem dX6_put_51 : decode cX6_put 51 = .ok (.getfield 17, 3) := by decide +kernel
theorem dX6_put_54 : decode cX6_put 54 = .ok (.iconst 1, 1) := by decide +kernel
theorem dX6_put_55 : decode cX6_put 55 = .ok (.iadd, 1) := by decide +kernel
theorem dX6_put_56 : decode cX6_put 56 = .ok (.putfield 17, 3) := by decide +kernel
theorem dX6_put_59 : decode cX6_put 59 = .ok (.return_, 1) := by decide +kernel
theorem dX6_copyTo_0 : decode cX6_copyTo 0 = .ok (.aload_n 0, 1) := by decide +kernel
theorem dX6_copyTo_1 : decode cX6_copyTo 1 = .ok (.getfield 11, 3) := by decide +kernel
theorem dX6_copyTo_4 : decode cX6_copyTo 4 = .ok (.iload_n 1, 1) := by decide +kernel
theorem dX6_copyTo_5 : decode cX6_copyTo 5 = .ok (.aaload, 1) := by decide +kernel
theorem dX6_copyTo_6 : decode cX6_copyTo 6 = .ok (.ifnonnull 20, 3) := by decide +kernel
theorem dX6_copyTo_9 : decode cX6_copyTo 9 = .ok (.aload_n 0, 1) := by decide +kernel
theorem dX6_copyTo_10 : decode cX6_copyTo 10 = .ok (.getfield 11, 3) := by decide +kernel
theorem dX6_copyTo_13 : decode cX6_copyTo 13 = .ok (.iload_n 1, 1) := by decide +kernel
theorem dX6_copyTo_14 : decode cX6_copyTo 14 = .ok (.new 9, 3) := by decide +kernel
theorem dX6_copyTo_17 : decode cX6_copyTo 17 = .ok (.dup, 1) := by decide +kernel
theorem dX6_copyTo_18 : decode cX6_copyTo 18 = .ok (.aload_n 2, 1) := by decide +kernel
theorem dX6_copyTo_19 : decode cX6_copyTo 19 = .ok (.getfield 28, 3) := by decide +kernel
theorem dX6_copyTo_22 : decode cX6_copyTo 22 = .ok (.invokespecial 32, 3) := by decide +kernel
theorem dX6_copyTo_25 : decode cX6_copyTo 25 = .ok (.aastore, 1) := by decide +kernel
theorem dX6_copyTo_26 : decode cX6_copyTo 26 = .ok (.aload_n 0, 1) := by decide +kernel
theorem dX6_copyTo_27 : decode cX6_copyTo 27 = .ok (.getfield 11, 3) := by decide +kernel
theorem dX6_copyTo_30 : decode cX6_copyTo 30 = .ok (.iload_n 1, 1) := by decide +kernel
theorem dX6_copyTo_31 : decode cX6_copyTo 31 = .ok (.aaload, 1) := by decide +kernel
theorem dX6_copyTo_32 : decode cX6_copyTo 32 = .ok (.aload_n 2, 1) := by decide +kernel
theorem dX6_copyTo_33 : decode cX6_copyTo 33 = .ok (.invokevirtual 35, 3) := by decide +kernel
theorem dX6_copyTo_36 : decode cX6_copyTo 36 = .ok (.return_, 1) := by decide +kernel
theorem dX6_takeBack_0 : decode cX6_takeBack 0 = .ok (.aload_n 0, 1) := by decide +kernel
theorem dX6_takeBack_1 : decode cX6_takeBack 1 = .ok (.getfield 17, 3) := by decide +kernel
theorem dX6_takeBack_4 : decode cX6_takeBack 4 = .ok (.iconst 1, 1) := by decide +kernel
theorem dX6_takeBack_5 : decode cX6_takeBack 5 = .ok (.if_icmp .ge 5, 3) := by decide +kernel
theorem dX6_takeBack_8 : decode cX6_takeBack 8 = .ok (.iconst 0, 1) := by decide +kernel
theorem dX6_takeBack_9 : decode cX6_takeBack 9 = .ok (.ireturn, 1) := by decide +kernel
theorem dX6_takeBack_10 : decode cX6_takeBack 10 = .ok (.aload_n 0, 1) := by decide +kernel
theorem dX6_takeBack_11 : decode cX6_takeBack 11 = .ok (.getfield 11, 3) := by decide +kernel
theorem dX6_takeBack_14 : decode cX6_takeBack 14 = .ok (.aload_n 0, 1) := by decide +kernel
theorem dX6_takeBack_15 : decode cX6_takeBack 15 = .ok (.getfield 21, 3) := by decide +kernel
theorem dX6_takeBack_18 : decode cX6_takeBack 18 = .ok (.aload_n 0, 1) := by decide +kernel
theorem dX6_takeBack_19 : decode cX6_takeBack 19 = .ok (.getfield 17, 3) := by decide +kernel
theorem dX6_takeBack_22 : decode cX6_takeBack 22 = .ok (.iadd, 1) := by decide +kernel
theorem dX6_takeBack_23 : decode cX6_takeBack 23 = .ok (.iconst 1, 1) := by decide +kernel
theorem dX6_takeBack_24 : decode cX6_takeBack 24 = .ok (.isub, 1) := by decide +kernel
theorem dX6_takeBack_25 : decode cX6_takeBack 25 = .ok (.bipush 20, 2) := by decide +kernel
theorem dX6_takeBack_27 : decode cX6_takeBack 27 = .ok (.irem, 1) := by decide +kernel
theorem dX6_takeBack_28 : decode cX6_takeBack 28 = .ok (.aaload, 1) := by decide +kernel
theorem dX6_takeBack_29 : decode cX6_takeBack 29 = .ok (.astore_n 2, 1) := by decide +kernel
theorem dX6_takeBack_30 : decode cX6_takeBack 30 = .ok (.aload_n 2, 1) := by decide +kernel
theorem dX6_takeBack_31 : decode cX6_takeBack 31 = .ok (.ifnonnull 5, 3) := by decide +kernel
theorem dX6_takeBack_34 : decode cX6_takeBack 34 = .ok (.iconst 0, 1) := by decide +kernel
theorem dX6_takeBack_35 : decode cX6_takeBack 35 = .ok (.ireturn, 1) := by decide +kernel
theorem dX6_takeBack_36 : decode cX6_takeBack 36 = .ok (.aload_n 1, 1) := by decide +kernel
theorem dX6_takeBack_37 : decode cX6_takeBack 37 = .ok (.aload_n 2, 1) := by decide +kernel
theorem dX6_takeBack_38 : decode cX6_takeBack 38 = .ok (.invokevirtual 35, 3) := by decide +kernel
theorem dX6_takeBack_41 : decode cX6_takeBack 41 = .ok (.aload_n 0, 1) := by decide +kernel
theorem dX6_takeBack_42 : decode cX6_takeBack 42 = .ok (.dup, 1) := by decide +kernel
theorem dX6_takeBack_43 : decode cX6_takeBack 43 = .ok (.getfield 17, 3) := by decide +kernel
theorem dX6_takeBack_46 : decode cX6_takeBack 46 = .ok (.iconst 1, 1) := by decide +kernel
theorem dX6_takeBack_47 : decode cX6_takeBack 47 = .ok (.isub, 1) := by decide +kernel
theorem dX6_takeBack_48 : decode cX6_takeBack 48 = .ok (.putfield 17, 3) := by decide +kernel
theorem dX6_takeBack_51 : decode cX6_takeBack 51 = .ok (.iconst 1, 1) := by decide +kernel
theorem dX6_takeBack_52 : decode cX6_takeBack 52 = .ok (.ireturn, 1) := by decide +kernel
theorem dX6_copyFrom_0 : decode cX6_copyFrom 0 = .ok (.aload_n 0, 1) := by decide +kernel
theorem dX6_copyFrom_1 : decode cX6_copyFrom 1 = .ok (.iconst 0, 1) := by decide +kernel
theorem dX6_copyFrom_2 : decode cX6_copyFrom 2 = .ok (.putfield 21, 3) := by decide +kernel
theorem dX6_copyFrom_5 : decode cX6_copyFrom 5 = .ok (.aload_n 0, 1) := by decide +kernel
theorem dX6_copyFrom_6 : decode cX6_copyFrom 6 = .ok (.aload_n 1, 1) := by decide +kernel
theorem dX6_copyFrom_7 : decode cX6_copyFrom 7 = .ok (.getfield 17, 3) := by decide +kernel
theorem dX6_copyFrom_10 : decode cX6_copyFrom 10 = .ok (.putfield 17, 3) := by decide +kernel
theorem dX6_copyFrom_13 : decode cX6_copyFrom 13 = .ok (.iconst 0, 1) := by decide +kernel
theorem dX6_copyFrom_14 : decode cX6_copyFrom 14 = .ok (.istore_n 2, 1) := by decide +kernel
theorem dX6_copyFrom_15 : decode cX6_copyFrom 15 = .ok (.iload_n 2, 1) := by decide +kernel
theorem dX6_copyFrom_16 : decode cX6_copyFrom 16 = .ok (.aload_n 0, 1) := by decide +kernel
theorem dX6_copyFrom_17 : decode cX6_copyFrom 17 = .ok (.getfield 17, 3) := by decide +kernel
theorem dX6_copyFrom_20 : decode cX6_copyFrom 20 = .ok (.if_icmp .ge 34, 3) := by decide +kernel
theorem dX6_copyFrom_23 : decode cX6_copyFrom 23 = .ok (.aload_n 1, 1) := by decide +kernel
theorem dX6_copyFrom_24 : decode cX6_copyFrom 24 = .ok (.getfield 11, 3) := by decide +kernel
theorem dX6_copyFrom_27 : decode cX6_copyFrom 27 = .ok (.aload_n 1, 1) := by decide +kernel
theorem dX6_copyFrom_28 : decode cX6_copyFrom 28 = .ok (.getfield 21, 3) := by decide +kernel
theorem dX6_copyFrom_31 : decode cX6_copyFrom 31 = .ok (.iload_n 2, 1) := by decide +kernel
theorem dX6_copyFrom_32 : decode cX6_copyFrom 32 = .ok (.iadd, 1) := by decide +kernel
theorem dX6_copyFrom_33 : decode cX6_copyFrom 33 = .ok (.bipush 20, 2) := by decide +kernel
theorem dX6_copyFrom_35 : decode cX6_copyFrom 35 = .ok (.irem, 1) := by decide +kernel
theorem dX6_copyFrom_36 : decode cX6_copyFrom 36 = .ok (.aaload, 1) := by decide +kernel
theorem dX6_copyFrom_37 : decode cX6_copyFrom 37 = .ok (.astore_n 3, 1) := by decide +kernel
theorem dX6_copyFrom_38 : decode cX6_copyFrom 38 = .ok (.aload_n 3, 1) := by decide +kernel
theorem dX6_copyFrom_39 : decode cX6_copyFrom 39 = .ok (.ifnull 9, 3) := by decide +kernel
theorem dX6_copyFrom_42 : decode cX6_copyFrom 42 = .ok (.aload_n 0, 1) := by decide +kernel
theorem dX6_copyFrom_43 : decode cX6_copyFrom 43 = .ok (.iload_n 2, 1) := by decide +kernel
theorem dX6_copyFrom_44 : decode cX6_copyFrom 44 = .ok (.aload_n 3, 1) := by decide +kernel
theorem dX6_copyFrom_45 : decode cX6_copyFrom 45 = .ok (.invokevirtual 24, 3) := by decide +kernel
theorem dX6_copyFrom_48 : decode cX6_copyFrom 48 = .ok (.iinc 2 1, 3) := by decide +kernel
theorem dX6_copyFrom_51 : decode cX6_copyFrom 51 = .ok (.goto (-36), 3) := by decide +kernel
theorem dX6_copyFrom_54 : decode cX6_copyFrom 54 = .ok (.return_, 1) := by decide +kernel
theorem dX7_init_0 : decode cX7_init 0 = .ok (.aload_n 0, 1) := by decide +kernel
theorem dX7_init_1 : decode cX7_init 1 = .ok (.invokespecial 3, 3) := by decide +kernel
theorem dX7_init_4 : decode cX7_init 4 = .ok (.aload_n 0, 1) := by decide +kernel
theorem dX7_init_5 : decode cX7_init 5 = .ok (.sipush 300, 3) := by decide +kernel
theorem dX7_init_8 : decode cX7_init 8 = .ok (.newarray .int, 2) := by decide +kernel
theorem dX7_init_10 : decode cX7_init 10 = .ok (.putfield 9, 3) := by decide +kernel
theorem dX7_init_13 : decode cX7_init 13 = .ok (.aload_n 0, 1) := by decide +kernel
theorem dX7_init_14 : decode cX7_init 14 = .ok (.iconst (-1), 1) := by decide +kernel
theorem dX7_init_15 : decode cX7_init 15 = .ok (.putfield 15, 3) := by decide +kernel
theorem dX7_init_18 : decode cX7_init 18 = .ok (.aload_n 0, 1) := by decide +kernel
theorem dX7_init_19 : decode cX7_init 19 = .ok (.iconst (-1), 1) := by decide +kernel
theorem dX7_init_20 : decode cX7_init 20 = .ok (.putfield 19, 3) := by decide +kernel
theorem dX7_init_23 : decode cX7_init 23 = .ok (.aload_n 0, 1) := by decide +kernel
theorem dX7_init_24 : decode cX7_init 24 = .ok (.bipush 32, 2) := by decide +kernel
theorem dX7_init_26 : decode cX7_init 26 = .ok (.newarray .int, 2) := by decide +kernel
theorem dX7_init_28 : decode cX7_init 28 = .ok (.putfield 22, 3) := by decide +kernel
theorem dX7_init_31 : decode cX7_init 31 = .ok (.return_, 1) := by decide +kernel
theorem dX7_take_0 : decode cX7_take 0 = .ok (.bipush 24, 2) := by decide +kernel
theorem dX7_take_2 : decode cX7_take 2 = .ok (.istore_n 2, 1) := by decide +kernel
theorem dX7_take_3 : decode cX7_take 3 = .ok (.iload_n 2, 1) := by decide +kernel
theorem dX7_take_4 : decode cX7_take 4 = .ok (.ifCond .lt 45, 3) := by decide +kernel
theorem dX7_take_7 : decode cX7_take 7 = .ok (.aload_n 0, 1) := by decide +kernel
theorem dX7_take_8 : decode cX7_take 8 = .ok (.getfield 25, 3) := by decide +kernel
theorem dX7_take_11 : decode cX7_take 11 = .ok (.sipush 300, 3) := by decide +kernel
theorem dX7_take_14 : decode cX7_take 14 = .ok (.if_icmp .ge 29, 3) := by decide +kernel
theorem dX7_take_17 : decode cX7_take 17 = .ok (.aload_n 0, 1) := by decide +kernel
theorem dX7_take_18 : decode cX7_take 18 = .ok (.getfield 9, 3) := by decide +kernel
theorem dX7_take_21 : decode cX7_take 21 = .ok (.aload_n 0, 1) := by decide +kernel
theorem dX7_take_22 : decode cX7_take 22 = .ok (.getfield 25, 3) := by decide +kernel
theorem dX7_take_25 : decode cX7_take 25 = .ok (.iload_n 1, 1) := by decide +kernel
theorem dX7_take_26 : decode cX7_take 26 = .ok (.iload_n 2, 1) := by decide +kernel
theorem dX7_take_27 : decode cX7_take 27 = .ok (.ishr, 1) := by decide +kernel
theorem dX7_take_28 : decode cX7_take 28 = .ok (.sipush 255, 3) := by decide +kernel
theorem dX7_take_31 : decode cX7_take 31 = .ok (.iand, 1) := by decide +kernel
theorem dX7_take_32 : decode cX7_take 32 = .ok (.iastore, 1) := by decide +kernel
theorem dX7_take_33 : decode cX7_take 33 = .ok (.aload_n 0, 1) := by decide +kernel
theorem dX7_take_34 : decode cX7_take 34 = .ok (.dup, 1) := by decide +kernel
theorem dX7_take_35 : decode cX7_take 35 = .ok (.getfield 25, 3) := by decide +kernel
theorem dX7_take_38 : decode cX7_take 38 = .ok (.iconst 1, 1) := by decide +kernel
theorem dX7_take_39 : decode cX7_take 39 = .ok (.iadd, 1) := by decide +kernel
theorem dX7_take_40 : decode cX7_take 40 = .ok (.putfield 25, 3) := by decide +kernel
theorem dX7_take_43 : decode cX7_take 43 = .ok (.iinc 2 (-8), 3) := by decide +kernel
theorem dX7_take_46 : decode cX7_take 46 = .ok (.goto (-43), 3) := by decide +kernel
theorem dX7_take_49 : decode cX7_take 49 = .ok (.return_, 1) := by decide +kernel
theorem dX7_read_0 : decode cX7_read 0 = .ok (.aload_n 0, 1) := by decide +kernel
theorem dX7_read_1 : decode cX7_read 1 = .ok (.iconst 0, 1) := by decide +kernel
theorem dX7_read_2 : decode cX7_read 2 = .ok (.putfield 28, 3) := by decide +kernel
theorem dX7_read_5 : decode cX7_read 5 = .ok (.aload_n 0, 1) := by decide +kernel
theorem dX7_read_6 : decode cX7_read 6 = .ok (.iconst 0, 1) := by decide +kernel
theorem dX7_read_7 : decode cX7_read 7 = .ok (.putfield 15, 3) := by decide +kernel
theorem dX7_read_10 : decode cX7_read 10 = .ok (.aload_n 0, 1) := by decide +kernel
theorem dX7_read_11 : decode cX7_read 11 = .ok (.iconst (-1), 1) := by decide +kernel
theorem dX7_read_12 : decode cX7_read 12 = .ok (.putfield 19, 3) := by decide +kernel
theorem dX7_read_15 : decode cX7_read 15 = .ok (.aload_n 0, 1) := by decide +kernel
theorem dX7_read_16 : decode cX7_read 16 = .ok (.iconst 1, 1) := by decide +kernel
theorem dX7_read_17 : decode cX7_read 17 = .ok (.putfield 31, 3) := by decide +kernel
theorem dX7_read_20 : decode cX7_read 20 = .ok (.aload_n 0, 1) := by decide +kernel
theorem dX7_read_21 : decode cX7_read 21 = .ok (.iconst 0, 1) := by decide +kernel
theorem dX7_read_22 : decode cX7_read 22 = .ok (.putfield 34, 3) := by decide +kernel
theorem dX7_read_25 : decode cX7_read 25 = .ok (.aload_n 0, 1) := by decide +kernel
theorem dX7_read_26 : decode cX7_read 26 = .ok (.iconst 0, 1) := by decide +kernel
theorem dX7_read_27 : decode cX7_read 27 = .ok (.putfield 37, 3) := by decide +kernel
theorem dX7_read_30 : decode cX7_read 30 = .ok (.aload_n 0, 1) := by decide +kernel
theorem dX7_read_31 : decode cX7_read 31 = .ok (.iconst (-1), 1) := by decide +kernel
theorem dX7_read_32 : decode cX7_read 32 = .ok (.putfield 40, 3) := by decide +kernel
theorem dX7_read_35 : decode cX7_read 35 = .ok (.aload_n 0, 1) := by decide +kernel
theorem dX7_read_36 : decode cX7_read 36 = .ok (.iconst (-1), 1) := by decide +kernel
theorem dX7_read_37 : decode cX7_read 37 = .ok (.putfield 43, 3) := by decide +kernel
theorem dX7_read_40 : decode cX7_read 40 = .ok (.aload_n 0, 1) := by decide +kernel
theorem dX7_read_41 : decode cX7_read 41 = .ok (.invokevirtual 46, 3) := by decide +kernel
theorem dX7_read_44 : decode cX7_read 44 = .ok (.aload_n 0, 1) := by decide +kernel
theorem dX7_read_45 : decode cX7_read 45 = .ok (.getfield 15, 3) := by decide +kernel
theorem dX7_read_48 : decode cX7_read 48 = .ok (.ifCond .eq 5, 3) := by decide +kernel
theorem dX7_read_51 : decode cX7_read 51 = .ok (.aconst_null, 1) := by decide +kernel
theorem dX7_read_52 : decode cX7_read 52 = .ok (.areturn, 1) := by decide +kernel
theorem dX7_read_53 : decode cX7_read 53 = .ok (.aload_n 0, 1) := by decide +kernel
theorem dX7_read_54 : decode cX7_read 54 = .ok (.getfield 40, 3) := by decide +kernel
theorem dX7_read_57 : decode cX7_read 57 = .ok (.iconst (-1), 1) := by decide +kernel
theorem dX7_read_58 : decode cX7_read 58 = .ok (.if_icmp .ne 7, 3) := by decide +kernel
theorem dX7_read_61 : decode cX7_read 61 = .ok (.iconst 1, 1) := by decide +kernel
theorem dX7_read_62 : decode cX7_read 62 = .ok (.goto 7, 3) := by decide +kernel
theorem dX7_read_65 : decode cX7_read 65 = .ok (.aload_n 0, 1) := by decide +kernel
theorem dX7_read_66 : decode cX7_read 66 = .ok (.getfield 40, 3) := by decide +kernel
theorem dX7_read_69 : decode cX7_read 69 = .ok (.istore_n 1, 1) := by decide +kernel
theorem dX7_read_70 : decode cX7_read 70 = .ok (.aload_n 0, 1) := by decide +kernel
theorem dX7_read_71 : decode cX7_read 71 = .ok (.getfield 43, 3) := by decide +kernel
theorem dX7_read_74 : decode cX7_read 74 = .ok (.iconst (-1), 1) := by decide +kernel
theorem dX7_read_75 : decode cX7_read 75 = .ok (.if_icmp .ne 8, 3) := by decide +kernel
theorem dX7_read_78 : decode cX7_read 78 = .ok (.bipush 15, 2) := by decide +kernel
theorem dX7_read_80 : decode cX7_read 80 = .ok (.goto 7, 3) := by decide +kernel
theorem dX7_read_83 : decode cX7_read 83 = .ok (.aload_n 0, 1) := by decide +kernel
theorem dX7_read_84 : decode cX7_read 84 = .ok (.getfield 43, 3) := by decide +kernel
theorem dX7_read_87 : decode cX7_read 87 = .ok (.istore_n 2, 1) := by decide +kernel
theorem dX7_read_88 : decode cX7_read 88 = .ok (.new 49, 3) := by decide +kernel
theorem dX7_read_91 : decode cX7_read 91 = .ok (.dup, 1) := by decide +kernel
theorem dX7_read_92 : decode cX7_read 92 = .ok (.aload_n 0, 1) := by decide +kernel
theorem dX7_read_93 : decode cX7_read 93 = .ok (.getfield 31, 3) := by decide +kernel
theorem dX7_read_96 : decode cX7_read 96 = .ok (.aload_n 0, 1) := by decide +kernel
theorem dX7_read_97 : decode cX7_read 97 = .ok (.getfield 34, 3) := by decide +kernel
theorem dX7_read_100 : decode cX7_read 100 = .ok (.aload_n 0, 1) := by decide +kernel
theorem dX7_read_101 : decode cX7_read 101 = .ok (.getfield 37, 3) := by decide +kernel
theorem dX7_read_104 : decode cX7_read 104 = .ok (.iload_n 1, 1) := by decide +kernel
theorem dX7_read_105 : decode cX7_read 105 = .ok (.iload_n 2, 1) := by decide +kernel
theorem dX7_read_106 : decode cX7_read 106 = .ok (.aload_n 0, 1) := by decide +kernel
theorem dX7_read_107 : decode cX7_read 107 = .ok (.getfield 22, 3) := by decide +kernel
theorem dX7_read_110 : decode cX7_read 110 = .ok (.invokevirtual 51, 3) := by decide +kernel
theorem dX7_read_113 : decode cX7_read 113 = .ok (.checkcast 52, 3) := by decide +kernel
theorem dX7_read_116 : decode cX7_read 116 = .ok (.invokespecial 56, 3) := by decide +kernel
theorem dX7_read_119 : decode cX7_read 119 = .ok (.areturn, 1) := by decide +kernel
theorem dX7_readClauses_0 : decode cX7_readClauses 0 = .ok (.iconst 0, 1) := by decide +kernel
theorem dX7_readClauses_1 : decode cX7_readClauses 1 = .ok (.istore_n 1, 1) := by decide +kernel
theorem dX7_readClauses_2 : decode cX7_readClauses 2 = .ok (.iload_n 1, 1) := by decide +kernel
theorem dX7_readClauses_3 : decode cX7_readClauses 3 = .ok (.sipush 300, 3) := by decide +kernel
theorem dX7_readClauses_6 : decode cX7_readClauses 6 = .ok (.if_icmp .gt 58, 3) := by decide +kernel
theorem dX7_readClauses_9 : decode cX7_readClauses 9 = .ok (.aload_n 0, 1) := by decide +kernel
theorem dX7_readClauses_10 : decode cX7_readClauses 10 = .ok (.invokevirtual 59, 3) := by decide +kernel
theorem dX7_readClauses_13 : decode cX7_readClauses 13 = .ok (.aload_n 0, 1) := by decide +kernel
theorem dX7_readClauses_14 : decode cX7_readClauses 14 = .ok (.getfield 62, 3) := by decide +kernel
theorem dX7_readClauses_17 : decode cX7_readClauses 17 = .ok (.ifCond .ne 20, 3) := by decide +kernel
theorem dX7_readClauses_20 : decode cX7_readClauses 20 = .ok (.aload_n 0, 1) := by decide +kernel
theorem dX7_readClauses_21 : decode cX7_readClauses 21 = .ok (.aload_n 0, 1) := by decide +kernel
theorem dX7_readClauses_22 : decode cX7_readClauses 22 = .ok (.getfield 34, 3) := by decide +kernel
theorem dX7_readClauses_25 : decode cX7_readClauses 25 = .ok (.ifCond .ne 7, 3) := by decide +kernel
theorem dX7_readClauses_28 : decode cX7_readClauses 28 = .ok (.iconst 1, 1) := by decide +kernel
theorem dX7_readClauses_29 : decode cX7_readClauses 29 = .ok (.goto 4, 3) := by decide +kernel
theorem dX7_readClauses_32 : decode cX7_readClauses 32 = .ok (.iconst 0, 1) := by decide +kernel
theorem dX7_readClauses_33 : decode cX7_readClauses 33 = .ok (.invokevirtual 65, 3) := by decide +kernel
theorem dX7_readClauses_36 : decode cX7_readClauses 36 = .ok (.return_, 1) := by decide +kernel
theorem dX7_readClauses_37 : decode cX7_readClauses 37 = .ok (.aload_n 0, 1) := by decide +kernel
theorem dX7_readClauses_38 : decode cX7_readClauses 38 = .ok (.iload_n 1, 1) := by decide +kernel
theorem dX7_readClauses_39 : decode cX7_readClauses 39 = .ok (.ifCond .ne 7, 3) := by decide +kernel
theorem dX7_readClauses_42 : decode cX7_readClauses 42 = .ok (.iconst 1, 1) := by decide +kernel
theorem dX7_readClauses_43 : decode cX7_readClauses 43 = .ok (.goto 4, 3) := by decide +kernel
theorem dX7_readClauses_46 : decode cX7_readClauses 46 = .ok (.iconst 0, 1) := by decide +kernel
theorem dX7_readClauses_47 : decode cX7_readClauses 47 = .ok (.invokevirtual 69, 3) := by decide +kernel
theorem dX7_readClauses_50 : decode cX7_readClauses 50 = .ok (.aload_n 0, 1) := by decide +kernel
theorem dX7_readClauses_51 : decode cX7_readClauses 51 = .ok (.getfield 15, 3) := by decide +kernel
theorem dX7_readClauses_54 : decode cX7_readClauses 54 = .ok (.ifCond .eq 4, 3) := by decide +kernel
theorem dX7_readClauses_57 : decode cX7_readClauses 57 = .ok (.return_, 1) := by decide +kernel
theorem dX7_readClauses_58 : decode cX7_readClauses 58 = .ok (.iinc 1 1, 3) := by decide +kernel
theorem dX7_readClauses_61 : decode cX7_readClauses 61 = .ok (.goto (-59), 3) := by decide +kernel
theorem dX7_readClauses_64 : decode cX7_readClauses 64 = .ok (.return_, 1) := by decide +kernel
theorem dX7_readClause_0 : decode cX7_readClause 0 = .ok (.aload_n 0, 1) := by decide +kernel
theorem dX7_readClause_1 : decode cX7_readClause 1 = .ok (.ldc 73, 2) := by decide +kernel
theorem dX7_readClause_3 : decode cX7_readClause 3 = .ok (.invokevirtual 75, 3) := by decide +kernel
theorem dX7_readClause_6 : decode cX7_readClause 6 = .ok (.ifCond .eq 10, 3) := by decide +kernel
theorem dX7_readClause_9 : decode cX7_readClause 9 = .ok (.aload_n 0, 1) := by decide +kernel
theorem dX7_readClause_10 : decode cX7_readClause 10 = .ok (.invokevirtual 79, 3) := by decide +kernel
theorem dX7_readClause_13 : decode cX7_readClause 13 = .ok (.goto 121, 3) := by decide +kernel
theorem dX7_readClause_16 : decode cX7_readClause 16 = .ok (.aload_n 0, 1) := by decide +kernel
theorem dX7_readClause_17 : decode cX7_readClause 17 = .ok (.ldc 82, 2) := by decide +kernel
theorem dX7_readClause_19 : decode cX7_readClause 19 = .ok (.invokevirtual 75, 3) := by decide +kernel
theorem dX7_readClause_22 : decode cX7_readClause 22 = .ok (.ifCond .eq 29, 3) := by decide +kernel
theorem dX7_readClause_25 : decode cX7_readClause 25 = .ok (.iload_n 1, 1) := by decide +kernel
theorem dX7_readClause_26 : decode cX7_readClause 26 = .ok (.ifCond .eq 17, 3) := by decide +kernel
theorem dX7_readClause_29 : decode cX7_readClause 29 = .ok (.aload_n 0, 1) := by decide +kernel
theorem dX7_readClause_30 : decode cX7_readClause 30 = .ok (.aload_n 0, 1) := by decide +kernel
theorem dX7_readClause_31 : decode cX7_readClause 31 = .ok (.iconst 1, 1) := by decide +kernel
theorem dX7_readClause_32 : decode cX7_readClause 32 = .ok (.bipush 6, 2) := by decide +kernel
theorem dX7_readClause_34 : decode cX7_readClause 34 = .ok (.invokevirtual 83, 3) := by decide +kernel
theorem dX7_readClause_37 : decode cX7_readClause 37 = .ok (.putfield 31, 3) := by decide +kernel
theorem dX7_readClause_40 : decode cX7_readClause 40 = .ok (.goto 94, 3) := by decide +kernel
theorem dX7_readClause_43 : decode cX7_readClause 43 = .ok (.aload_n 0, 1) := by decide +kernel
theorem dX7_readClause_44 : decode cX7_readClause 44 = .ok (.iconst 4, 1) := by decide +kernel
theorem dX7_readClause_45 : decode cX7_readClause 45 = .ok (.invokevirtual 65, 3) := by decide +kernel
theorem dX7_readClause_48 : decode cX7_readClause 48 = .ok (.goto 86, 3) := by decide +kernel
theorem dX7_readClause_51 : decode cX7_readClause 51 = .ok (.aload_n 0, 1) := by decide +kernel
theorem dX7_readClause_52 : decode cX7_readClause 52 = .ok (.ldc 87, 2) := by decide +kernel
theorem dX7_readClause_54 : decode cX7_readClause 54 = .ok (.invokevirtual 75, 3) := by decide +kernel
theorem dX7_readClause_57 : decode cX7_readClause 57 = .ok (.ifCond .eq 33, 3) := by decide +kernel
theorem dX7_readClause_60 : decode cX7_readClause 60 = .ok (.aload_n 0, 1) := by decide +kernel
theorem dX7_readClause_61 : decode cX7_readClause 61 = .ok (.getfield 40, 3) := by decide +kernel
theorem dX7_readClause_64 : decode cX7_readClause 64 = .ok (.iconst (-1), 1) := by decide +kernel
theorem dX7_readClause_65 : decode cX7_readClause 65 = .ok (.if_icmp .ne 17, 3) := by decide +kernel
theorem dX7_readClause_68 : decode cX7_readClause 68 = .ok (.aload_n 0, 1) := by decide +kernel
theorem dX7_readClause_69 : decode cX7_readClause 69 = .ok (.aload_n 0, 1) := by decide +kernel
theorem dX7_readClause_70 : decode cX7_readClause 70 = .ok (.iconst 0, 1) := by decide +kernel
theorem dX7_readClause_71 : decode cX7_readClause 71 = .ok (.bipush 9, 2) := by decide +kernel
theorem dX7_readClause_73 : decode cX7_readClause 73 = .ok (.invokevirtual 83, 3) := by decide +kernel
theorem dX7_readClause_76 : decode cX7_readClause 76 = .ok (.putfield 40, 3) := by decide +kernel
theorem dX7_readClause_79 : decode cX7_readClause 79 = .ok (.goto 55, 3) := by decide +kernel
theorem dX7_readClause_82 : decode cX7_readClause 82 = .ok (.aload_n 0, 1) := by decide +kernel
theorem dX7_readClause_83 : decode cX7_readClause 83 = .ok (.iconst 4, 1) := by decide +kernel
theorem dX7_readClause_84 : decode cX7_readClause 84 = .ok (.invokevirtual 65, 3) := by decide +kernel
theorem dX7_readClause_87 : decode cX7_readClause 87 = .ok (.goto 47, 3) := by decide +kernel
theorem dX7_readClause_90 : decode cX7_readClause 90 = .ok (.aload_n 0, 1) := by decide +kernel
theorem dX7_readClause_91 : decode cX7_readClause 91 = .ok (.ldc 88, 2) := by decide +kernel
theorem dX7_readClause_93 : decode cX7_readClause 93 = .ok (.invokevirtual 75, 3) := by decide +kernel
theorem dX7_readClause_96 : decode cX7_readClause 96 = .ok (.ifCond .eq 33, 3) := by decide +kernel
theorem dX7_readClause_99 : decode cX7_readClause 99 = .ok (.aload_n 0, 1) := by decide +kernel
theorem dX7_readClause_100 : decode cX7_readClause 100 = .ok (.getfield 43, 3) := by decide +kernel
theorem dX7_readClause_103 : decode cX7_readClause 103 = .ok (.iconst (-1), 1) := by decide +kernel
theorem dX7_readClause_104 : decode cX7_readClause 104 = .ok (.if_icmp .ne 17, 3) := by decide +kernel
theorem dX7_readClause_107 : decode cX7_readClause 107 = .ok (.aload_n 0, 1) := by decide +kernel
theorem dX7_readClause_108 : decode cX7_readClause 108 = .ok (.aload_n 0, 1) := by decide +kernel
theorem dX7_readClause_109 : decode cX7_readClause 109 = .ok (.iconst 1, 1) := by decide +kernel
theorem dX7_readClause_110 : decode cX7_readClause 110 = .ok (.bipush 31, 2) := by decide +kernel
theorem dX7_readClause_112 : decode cX7_readClause 112 = .ok (.invokevirtual 83, 3) := by decide +kernel
theorem dX7_readClause_115 : decode cX7_readClause 115 = .ok (.putfield 43, 3) := by decide +kernel
theorem dX7_readClause_118 : decode cX7_readClause 118 = .ok (.goto 16, 3) := by decide +kernel
theorem dX7_readClause_121 : decode cX7_readClause 121 = .ok (.aload_n 0, 1) := by decide +kernel
theorem dX7_readClause_122 : decode cX7_readClause 122 = .ok (.iconst 4, 1) := by decide +kernel
theorem dX7_readClause_123 : decode cX7_readClause 123 = .ok (.invokevirtual 65, 3) := by decide +kernel
theorem dX7_readClause_126 : decode cX7_readClause 126 = .ok (.goto 8, 3) := by decide +kernel
theorem dX7_readClause_129 : decode cX7_readClause 129 = .ok (.aload_n 0, 1) := by decide +kernel
theorem dX7_readClause_130 : decode cX7_readClause 130 = .ok (.iconst 1, 1) := by decide +kernel
theorem dX7_readClause_131 : decode cX7_readClause 131 = .ok (.invokevirtual 65, 3) := by decide +kernel
theorem dX7_readClause_134 : decode cX7_readClause 134 = .ok (.return_, 1) := by decide +kernel
theorem dX7_readNumber_0 : decode cX7_readNumber 0 = .ok (.aload_n 0, 1) := by decide +kernel
theorem dX7_readNumber_1 : decode cX7_readNumber 1 = .ok (.invokevirtual 59, 3) := by decide +kernel
theorem dX7_readNumber_4 : decode cX7_readNumber 4 = .ok (.aload_n 0, 1) := by decide +kernel
theorem dX7_readNumber_5 : decode cX7_readNumber 5 = .ok (.getfield 62, 3) := by decide +kernel
theorem dX7_readNumber_8 : decode cX7_readNumber 8 = .ok (.iconst 2, 1) := by decide +kernel
theorem dX7_readNumber_9 : decode cX7_readNumber 9 = .ok (.if_icmp .eq 10, 3) := by decide +kernel
theorem dX7_readNumber_12 : decode cX7_readNumber 12 = .ok (.aload_n 0, 1) := by decide +kernel
theorem dX7_readNumber_13 : decode cX7_readNumber 13 = .ok (.iconst 1, 1) := by decide +kernel
theorem dX7_readNumber_14 : decode cX7_readNumber 14 = .ok (.invokevirtual 65, 3) := by decide +kernel
theorem dX7_readNumber_17 : decode cX7_readNumber 17 = .ok (.iload_n 1, 1) := by decide +kernel
theorem dX7_readNumber_18 : decode cX7_readNumber 18 = .ok (.ireturn, 1) := by decide +kernel
theorem dX7_readNumber_19 : decode cX7_readNumber 19 = .ok (.aload_n 0, 1) := by decide +kernel
theorem dX7_readNumber_20 : decode cX7_readNumber 20 = .ok (.getfield 89, 3) := by decide +kernel
theorem dX7_readNumber_23 : decode cX7_readNumber 23 = .ok (.iload_n 1, 1) := by decide +kernel
theorem dX7_readNumber_24 : decode cX7_readNumber 24 = .ok (.if_icmp .lt 11, 3) := by decide +kernel
theorem dX7_readNumber_27 : decode cX7_readNumber 27 = .ok (.aload_n 0, 1) := by decide +kernel
theorem dX7_readNumber_28 : decode cX7_readNumber 28 = .ok (.getfield 89, 3) := by decide +kernel
theorem dX7_readNumber_31 : decode cX7_readNumber 31 = .ok (.iload_n 2, 1) := by decide +kernel
theorem dX7_readNumber_32 : decode cX7_readNumber 32 = .ok (.if_icmp .le 10, 3) := by decide +kernel
theorem dX7_readNumber_35 : decode cX7_readNumber 35 = .ok (.aload_n 0, 1) := by decide +kernel
theorem dX7_readNumber_36 : decode cX7_readNumber 36 = .ok (.iconst 2, 1) := by decide +kernel
theorem dX7_readNumber_37 : decode cX7_readNumber 37 = .ok (.invokevirtual 65, 3) := by decide +kernel
theorem dX7_readNumber_40 : decode cX7_readNumber 40 = .ok (.iload_n 1, 1) := by decide +kernel
theorem dX7_readNumber_41 : decode cX7_readNumber 41 = .ok (.ireturn, 1) := by decide +kernel
theorem dX7_readNumber_42 : decode cX7_readNumber 42 = .ok (.aload_n 0, 1) := by decide +kernel
theorem dX7_readNumber_43 : decode cX7_readNumber 43 = .ok (.getfield 89, 3) := by decide +kernel
theorem dX7_readNumber_46 : decode cX7_readNumber 46 = .ok (.istore_n 3, 1) := by decide +kernel
theorem dX7_readNumber_47 : decode cX7_readNumber 47 = .ok (.aload_n 0, 1) := by decide +kernel
theorem dX7_readNumber_48 : decode cX7_readNumber 48 = .ok (.invokevirtual 59, 3) := by decide +kernel
theorem dX7_readNumber_51 : decode cX7_readNumber 51 = .ok (.aload_n 0, 1) := by decide +kernel
theorem dX7_readNumber_52 : decode cX7_readNumber 52 = .ok (.getfield 62, 3) := by decide +kernel
theorem dX7_readNumber_55 : decode cX7_readNumber 55 = .ok (.iconst 4, 1) := by decide +kernel
theorem dX7_readNumber_56 : decode cX7_readNumber 56 = .ok (.if_icmp .eq 8, 3) := by decide +kernel
theorem dX7_readNumber_59 : decode cX7_readNumber 59 = .ok (.aload_n 0, 1) := by decide +kernel
theorem dX7_readNumber_60 : decode cX7_readNumber 60 = .ok (.iconst 1, 1) := by decide +kernel
theorem dX7_readNumber_61 : decode cX7_readNumber 61 = .ok (.invokevirtual 65, 3) := by decide +kernel
theorem dX7_readNumber_64 : decode cX7_readNumber 64 = .ok (.iload_n 3, 1) := by decide +kernel
theorem dX7_readNumber_65 : decode cX7_readNumber 65 = .ok (.ireturn, 1) := by decide +kernel
theorem dX7_readRow_0 : decode cX7_readRow 0 = .ok (.aload_n 0, 1) := by decide +kernel
theorem dX7_readRow_1 : decode cX7_readRow 1 = .ok (.getfield 34, 3) := by decide +kernel
theorem dX7_readRow_4 : decode cX7_readRow 4 = .ok (.iconst 4, 1) := by decide +kernel
theorem dX7_readRow_5 : decode cX7_readRow 5 = .ok (.if_icmp .lt 9, 3) := by decide +kernel
theorem dX7_readRow_8 : decode cX7_readRow 8 = .ok (.aload_n 0, 1) := by decide +kernel
theorem dX7_readRow_9 : decode cX7_readRow 9 = .ok (.iconst 3, 1) := by decide +kernel
theorem dX7_readRow_10 : decode cX7_readRow 10 = .ok (.invokevirtual 65, 3) := by decide +kernel
theorem dX7_readRow_13 : decode cX7_readRow 13 = .ok (.return_, 1) := by decide +kernel
theorem dX7_readRow_14 : decode cX7_readRow 14 = .ok (.iconst 0, 1) := by decide +kernel
theorem dX7_readRow_15 : decode cX7_readRow 15 = .ok (.istore_n 1, 1) := by decide +kernel
theorem dX7_readRow_16 : decode cX7_readRow 16 = .ok (.iload_n 1, 1) := by decide +kernel
theorem dX7_readRow_17 : decode cX7_readRow 17 = .ok (.bipush 8, 2) := by decide +kernel
theorem dX7_readRow_19 : decode cX7_readRow 19 = .ok (.if_icmp .gt 73, 3) := by decide +kernel
theorem dX7_readRow_22 : decode cX7_readRow 22 = .ok (.aload_n 0, 1) := by decide +kernel
theorem dX7_readRow_23 : decode cX7_readRow 23 = .ok (.invokevirtual 59, 3) := by decide +kernel
theorem dX7_readRow_26 : decode cX7_readRow 26 = .ok (.aload_n 0, 1) := by decide +kernel
theorem dX7_readRow_27 : decode cX7_readRow 27 = .ok (.getfield 62, 3) := by decide +kernel
theorem dX7_readRow_30 : decode cX7_readRow 30 = .ok (.iconst 4, 1) := by decide +kernel
theorem dX7_readRow_31 : decode cX7_readRow 31 = .ok (.if_icmp .ne 9, 3) := by decide +kernel
theorem dX7_readRow_34 : decode cX7_readRow 34 = .ok (.aload_n 0, 1) := by decide +kernel
theorem dX7_readRow_35 : decode cX7_readRow 35 = .ok (.iload_n 1, 1) := by decide +kernel
theorem dX7_readRow_36 : decode cX7_readRow 36 = .ok (.invokevirtual 92, 3) := by decide +kernel
theorem dX7_readRow_39 : decode cX7_readRow 39 = .ok (.return_, 1) := by decide +kernel
theorem dX7_readRow_40 : decode cX7_readRow 40 = .ok (.aload_n 0, 1) := by decide +kernel
theorem dX7_readRow_41 : decode cX7_readRow 41 = .ok (.iload_n 1, 1) := by decide +kernel
theorem dX7_readRow_42 : decode cX7_readRow 42 = .ok (.invokevirtual 95, 3) := by decide +kernel
theorem dX7_readRow_45 : decode cX7_readRow 45 = .ok (.istore_n 2, 1) := by decide +kernel
theorem dX7_readRow_46 : decode cX7_readRow 46 = .ok (.iload_n 2, 1) := by decide +kernel
theorem dX7_readRow_47 : decode cX7_readRow 47 = .ok (.ifCond .eq 9, 3) := by decide +kernel
theorem dX7_readRow_50 : decode cX7_readRow 50 = .ok (.aload_n 0, 1) := by decide +kernel
theorem dX7_readRow_51 : decode cX7_readRow 51 = .ok (.iload_n 2, 1) := by decide +kernel
theorem dX7_readRow_52 : decode cX7_readRow 52 = .ok (.invokevirtual 65, 3) := by decide +kernel
theorem dX7_readRow_55 : decode cX7_readRow 55 = .ok (.return_, 1) := by decide +kernel
theorem dX7_readRow_56 : decode cX7_readRow 56 = .ok (.aload_n 0, 1) := by decide +kernel
theorem dX7_readRow_57 : decode cX7_readRow 57 = .ok (.getfield 22, 3) := by decide +kernel
theorem dX7_readRow_60 : decode cX7_readRow 60 = .ok (.aload_n 0, 1) := by decide +kernel
theorem dX7_readRow_61 : decode cX7_readRow 61 = .ok (.getfield 34, 3) := by decide +kernel
theorem dX7_readRow_64 : decode cX7_readRow 64 = .ok (.bipush 8, 2) := by decide +kernel
theorem dX7_readRow_66 : decode cX7_readRow 66 = .ok (.imul, 1) := by decide +kernel
theorem dX7_readRow_67 : decode cX7_readRow 67 = .ok (.iload_n 1, 1) := by decide +kernel
theorem dX7_readRow_68 : decode cX7_readRow 68 = .ok (.iadd, 1) := by decide +kernel
theorem dX7_readRow_69 : decode cX7_readRow 69 = .ok (.aload_n 0, 1) := by decide +kernel
theorem dX7_readRow_70 : decode cX7_readRow 70 = .ok (.getfield 62, 3) := by decide +kernel
theorem dX7_readRow_73 : decode cX7_readRow 73 = .ok (.iconst 3, 1) := by decide +kernel
theorem dX7_readRow_74 : decode cX7_readRow 74 = .ok (.if_icmp .ne 7, 3) := by decide +kernel
theorem dX7_readRow_77 : decode cX7_readRow 77 = .ok (.iconst (-1), 1) := by decide +kernel
theorem dX7_readRow_78 : decode cX7_readRow 78 = .ok (.goto 7, 3) := by decide +kernel
theorem dX7_readRow_81 : decode cX7_readRow 81 = .ok (.aload_n 0, 1) := by decide +kernel
theorem dX7_readRow_82 : decode cX7_readRow 82 = .ok (.getfield 89, 3) := by decide +kernel
theorem dX7_readRow_85 : decode cX7_readRow 85 = .ok (.iastore, 1) := by decide +kernel
theorem dX7_readRow_86 : decode cX7_readRow 86 = .ok (.iinc 1 1, 3) := by decide +kernel
theorem dX7_readRow_89 : decode cX7_readRow 89 = .ok (.goto (-73), 3) := by decide +kernel
theorem dX7_readRow_92 : decode cX7_readRow 92 = .ok (.return_, 1) := by decide +kernel
theorem dX7_entryFault_0 : decode cX7_entryFault 0 = .ok (.aload_n 0, 1) := by decide +kernel
theorem dX7_entryFault_1 : decode cX7_entryFault 1 = .ok (.getfield 62, 3) := by decide +kernel
theorem dX7_entryFault_4 : decode cX7_entryFault 4 = .ok (.iconst 2, 1) := by decide +kernel
theorem dX7_entryFault_5 : decode cX7_entryFault 5 = .ok (.if_icmp .eq 13, 3) := by decide +kernel
theorem dX7_entryFault_8 : decode cX7_entryFault 8 = .ok (.aload_n 0, 1) := by decide +kernel
theorem dX7_entryFault_9 : decode cX7_entryFault 9 = .ok (.getfield 62, 3) := by decide +kernel
theorem dX7_entryFault_12 : decode cX7_entryFault 12 = .ok (.iconst 3, 1) := by decide +kernel
theorem dX7_entryFault_13 : decode cX7_entryFault 13 = .ok (.if_icmp .eq 5, 3) := by decide +kernel
theorem dX7_entryFault_16 : decode cX7_entryFault 16 = .ok (.iconst 1, 1) := by decide +kernel
theorem dX7_entryFault_17 : decode cX7_entryFault 17 = .ok (.ireturn, 1) := by decide +kernel
theorem dX7_entryFault_18 : decode cX7_entryFault 18 = .ok (.aload_n 0, 1) := by decide +kernel
theorem dX7_entryFault_19 : decode cX7_entryFault 19 = .ok (.getfield 62, 3) := by decide +kernel
theorem dX7_entryFault_22 : decode cX7_entryFault 22 = .ok (.iconst 2, 1) := by decide +kernel
theorem dX7_entryFault_23 : decode cX7_entryFault 23 = .ok (.if_icmp .ne 16, 3) := by decide +kernel
theorem dX7_entryFault_26 : decode cX7_entryFault 26 = .ok (.aload_n 0, 1) := by decide +kernel
theorem dX7_entryFault_27 : decode cX7_entryFault 27 = .ok (.getfield 89, 3) := by decide +kernel
theorem dX7_entryFault_30 : decode cX7_entryFault 30 = .ok (.aload_n 0, 1) := by decide +kernel
theorem dX7_entryFault_31 : decode cX7_entryFault 31 = .ok (.getfield 31, 3) := by decide +kernel
theorem dX7_entryFault_34 : decode cX7_entryFault 34 = .ok (.if_icmp .lt 5, 3) := by decide +kernel
theorem dX7_entryFault_37 : decode cX7_entryFault 37 = .ok (.iconst 2, 1) := by decide +kernel
theorem dX7_entryFault_38 : decode cX7_entryFault 38 = .ok (.ireturn, 1) := by decide +kernel
theorem dX7_entryFault_39 : decode cX7_entryFault 39 = .ok (.iload_n 1, 1) := by decide +kernel
theorem dX7_entryFault_40 : decode cX7_entryFault 40 = .ok (.bipush 8, 2) := by decide +kernel
theorem dX7_entryFault_42 : decode cX7_entryFault 42 = .ok (.if_icmp .lt 7, 3) := by decide +kernel
theorem dX7_entryFault_45 : decode cX7_entryFault 45 = .ok (.iconst 3, 1) := by decide +kernel
theorem dX7_entryFault_46 : decode cX7_entryFault 46 = .ok (.goto 4, 3) := by decide +kernel
theorem dX7_entryFault_49 : decode cX7_entryFault 49 = .ok (.iconst 0, 1) := by decide +kernel
theorem dX7_entryFault_50 : decode cX7_entryFault 50 = .ok (.ireturn, 1) := by decide +kernel
theorem dX7_endRow_0 : decode cX7_endRow 0 = .ok (.iload_n 1, 1) := by decide +kernel
theorem dX7_endRow_1 : decode cX7_endRow 1 = .ok (.ifCond .ne 11, 3) := by decide +kernel
theorem dX7_endRow_4 : decode cX7_endRow 4 = .ok (.aload_n 0, 1) := by decide +kernel
theorem dX7_endRow_5 : decode cX7_endRow 5 = .ok (.iconst 1, 1) := by decide +kernel
theorem dX7_endRow_6 : decode cX7_endRow 6 = .ok (.invokevirtual 65, 3) := by decide +kernel
theorem dX7_endRow_9 : decode cX7_endRow 9 = .ok (.goto 41, 3) := by decide +kernel
theorem dX7_endRow_12 : decode cX7_endRow 12 = .ok (.aload_n 0, 1) := by decide +kernel
theorem dX7_endRow_13 : decode cX7_endRow 13 = .ok (.getfield 34, 3) := by decide +kernel
theorem dX7_endRow_16 : decode cX7_endRow 16 = .ok (.ifCond .le 19, 3) := by decide +kernel
theorem dX7_endRow_19 : decode cX7_endRow 19 = .ok (.iload_n 1, 1) := by decide +kernel
theorem dX7_endRow_20 : decode cX7_endRow 20 = .ok (.aload_n 0, 1) := by decide +kernel
theorem dX7_endRow_21 : decode cX7_endRow 21 = .ok (.getfield 37, 3) := by decide +kernel
theorem dX7_endRow_24 : decode cX7_endRow 24 = .ok (.if_icmp .eq 11, 3) := by decide +kernel
theorem dX7_endRow_27 : decode cX7_endRow 27 = .ok (.aload_n 0, 1) := by decide +kernel
theorem dX7_endRow_28 : decode cX7_endRow 28 = .ok (.iconst 5, 1) := by decide +kernel
theorem dX7_endRow_29 : decode cX7_endRow 29 = .ok (.invokevirtual 65, 3) := by decide +kernel
theorem dX7_endRow_32 : decode cX7_endRow 32 = .ok (.goto 18, 3) := by decide +kernel
theorem dX7_endRow_35 : decode cX7_endRow 35 = .ok (.aload_n 0, 1) := by decide +kernel
theorem dX7_endRow_36 : decode cX7_endRow 36 = .ok (.iload_n 1, 1) := by decide +kernel
theorem dX7_endRow_37 : decode cX7_endRow 37 = .ok (.putfield 37, 3) := by decide +kernel
theorem dX7_endRow_40 : decode cX7_endRow 40 = .ok (.aload_n 0, 1) := by decide +kernel
theorem dX7_endRow_41 : decode cX7_endRow 41 = .ok (.dup, 1) := by decide +kernel
theorem dX7_endRow_42 : decode cX7_endRow 42 = .ok (.getfield 34, 3) := by decide +kernel
theorem dX7_endRow_45 : decode cX7_endRow 45 = .ok (.iconst 1, 1) := by decide +kernel
theorem dX7_endRow_46 : decode cX7_endRow 46 = .ok (.iadd, 1) := by decide +kernel
theorem dX7_endRow_47 : decode cX7_endRow 47 = .ok (.putfield 34, 3) := by decide +kernel
theorem dX7_endRow_50 : decode cX7_endRow 50 = .ok (.return_, 1) := by decide +kernel
theorem dX7_refuse_0 : decode cX7_refuse 0 = .ok (.aload_n 0, 1) := by decide +kernel
theorem dX7_refuse_1 : decode cX7_refuse 1 = .ok (.getfield 15, 3) := by decide +kernel
theorem dX7_refuse_4 : decode cX7_refuse 4 = .ok (.ifCond .ne 20, 3) := by decide +kernel
theorem dX7_refuse_7 : decode cX7_refuse 7 = .ok (.iload_n 1, 1) := by decide +kernel
theorem dX7_refuse_8 : decode cX7_refuse 8 = .ok (.ifCond .eq 16, 3) := by decide +kernel
theorem dX7_refuse_11 : decode cX7_refuse 11 = .ok (.aload_n 0, 1) := by decide +kernel
theorem dX7_refuse_12 : decode cX7_refuse 12 = .ok (.iload_n 1, 1) := by decide +kernel
theorem dX7_refuse_13 : decode cX7_refuse 13 = .ok (.putfield 15, 3) := by decide +kernel
theorem dX7_refuse_16 : decode cX7_refuse 16 = .ok (.aload_n 0, 1) := by decide +kernel
theorem dX7_refuse_17 : decode cX7_refuse 17 = .ok (.aload_n 0, 1) := by decide +kernel
theorem dX7_refuse_18 : decode cX7_refuse 18 = .ok (.getfield 99, 3) := by decide +kernel
theorem dX7_refuse_21 : decode cX7_refuse 21 = .ok (.putfield 19, 3) := by decide +kernel
theorem dX7_refuse_24 : decode cX7_refuse 24 = .ok (.return_, 1) := by decide +kernel
theorem dX7_spells_0 : decode cX7_spells 0 = .ok (.aload_n 0, 1) := by decide +kernel
theorem dX7_spells_1 : decode cX7_spells 1 = .ok (.getfield 62, 3) := by decide +kernel
theorem dX7_spells_4 : decode cX7_spells 4 = .ok (.iconst 1, 1) := by decide +kernel
theorem dX7_spells_5 : decode cX7_spells 5 = .ok (.if_icmp .ne 19, 3) := by decide +kernel
theorem dX7_spells_8 : decode cX7_spells 8 = .ok (.aload_n 0, 1) := by decide +kernel
theorem dX7_spells_9 : decode cX7_spells 9 = .ok (.getfield 28, 3) := by decide +kernel
theorem dX7_spells_12 : decode cX7_spells 12 = .ok (.aload_n 0, 1) := by decide +kernel
theorem dX7_spells_13 : decode cX7_spells 13 = .ok (.getfield 99, 3) := by decide +kernel
theorem dX7_spells_16 : decode cX7_spells 16 = .ok (.isub, 1) := by decide +kernel
theorem dX7_spells_17 : decode cX7_spells 17 = .ok (.aload_n 1, 1) := by decide +kernel
theorem dX7_spells_18 : decode cX7_spells 18 = .ok (.invokevirtual 102, 3) := by decide +kernel
theorem dX7_spells_21 : decode cX7_spells 21 = .ok (.if_icmp .eq 5, 3) := by decide +kernel
theorem dX7_spells_24 : decode cX7_spells 24 = .ok (.iconst 0, 1) := by decide +kernel
theorem dX7_spells_25 : decode cX7_spells 25 = .ok (.ireturn, 1) := by decide +kernel
theorem dX7_spells_26 : decode cX7_spells 26 = .ok (.iconst 0, 1) := by decide +kernel
theorem dX7_spells_27 : decode cX7_spells 27 = .ok (.istore_n 2, 1) := by decide +kernel
theorem dX7_spells_28 : decode cX7_spells 28 = .ok (.iload_n 2, 1) := by decide +kernel
theorem dX7_spells_29 : decode cX7_spells 29 = .ok (.aload_n 1, 1) := by decide +kernel
theorem dX7_spells_30 : decode cX7_spells 30 = .ok (.invokevirtual 102, 3) := by decide +kernel
theorem dX7_spells_33 : decode cX7_spells 33 = .ok (.if_icmp .ge 30, 3) := by decide +kernel
theorem dX7_spells_36 : decode cX7_spells 36 = .ok (.aload_n 0, 1) := by decide +kernel
theorem dX7_spells_37 : decode cX7_spells 37 = .ok (.getfield 9, 3) := by decide +kernel
theorem dX7_spells_40 : decode cX7_spells 40 = .ok (.aload_n 0, 1) := by decide +kernel
theorem dX7_spells_41 : decode cX7_spells 41 = .ok (.getfield 99, 3) := by decide +kernel
theorem dX7_spells_44 : decode cX7_spells 44 = .ok (.iload_n 2, 1) := by decide +kernel
theorem dX7_spells_45 : decode cX7_spells 45 = .ok (.iadd, 1) := by decide +kernel
theorem dX7_spells_46 : decode cX7_spells 46 = .ok (.iaload, 1) := by decide +kernel
theorem dX7_spells_47 : decode cX7_spells 47 = .ok (.aload_n 1, 1) := by decide +kernel
theorem dX7_spells_48 : decode cX7_spells 48 = .ok (.iload_n 2, 1) := by decide +kernel
theorem dX7_spells_49 : decode cX7_spells 49 = .ok (.invokevirtual 107, 3) := by decide +kernel
theorem dX7_spells_52 : decode cX7_spells 52 = .ok (.if_icmp .eq 5, 3) := by decide +kernel
theorem dX7_spells_55 : decode cX7_spells 55 = .ok (.iconst 0, 1) := by decide +kernel
theorem dX7_spells_56 : decode cX7_spells 56 = .ok (.ireturn, 1) := by decide +kernel
theorem dX7_spells_57 : decode cX7_spells 57 = .ok (.iinc 2 1, 3) := by decide +kernel
theorem dX7_spells_60 : decode cX7_spells 60 = .ok (.goto (-32), 3) := by decide +kernel
theorem dX7_spells_63 : decode cX7_spells 63 = .ok (.iconst 1, 1) := by decide +kernel
theorem dX7_spells_64 : decode cX7_spells 64 = .ok (.ireturn, 1) := by decide +kernel
theorem dX7_readToken_0 : decode cX7_readToken 0 = .ok (.aload_n 0, 1) := by decide +kernel
theorem dX7_readToken_1 : decode cX7_readToken 1 = .ok (.getfield 28, 3) := by decide +kernel
theorem dX7_readToken_4 : decode cX7_readToken 4 = .ok (.aload_n 0, 1) := by decide +kernel
theorem dX7_readToken_5 : decode cX7_readToken 5 = .ok (.getfield 25, 3) := by decide +kernel
theorem dX7_readToken_8 : decode cX7_readToken 8 = .ok (.if_icmp .ge 44, 3) := by decide +kernel
theorem dX7_readToken_11 : decode cX7_readToken 11 = .ok (.aload_n 0, 1) := by decide +kernel
theorem dX7_readToken_12 : decode cX7_readToken 12 = .ok (.getfield 9, 3) := by decide +kernel
theorem dX7_readToken_15 : decode cX7_readToken 15 = .ok (.aload_n 0, 1) := by decide +kernel
theorem dX7_readToken_16 : decode cX7_readToken 16 = .ok (.getfield 28, 3) := by decide +kernel
theorem dX7_readToken_19 : decode cX7_readToken 19 = .ok (.iaload, 1) := by decide +kernel
theorem dX7_readToken_20 : decode cX7_readToken 20 = .ok (.bipush 32, 2) := by decide +kernel
theorem dX7_readToken_22 : decode cX7_readToken 22 = .ok (.if_icmp .eq 17, 3) := by decide +kernel
theorem dX7_readToken_25 : decode cX7_readToken 25 = .ok (.aload_n 0, 1) := by decide +kernel
theorem dX7_readToken_26 : decode cX7_readToken 26 = .ok (.getfield 9, 3) := by decide +kernel
theorem dX7_readToken_29 : decode cX7_readToken 29 = .ok (.aload_n 0, 1) := by decide +kernel
theorem dX7_readToken_30 : decode cX7_readToken 30 = .ok (.getfield 28, 3) := by decide +kernel
theorem dX7_readToken_33 : decode cX7_readToken 33 = .ok (.iaload, 1) := by decide +kernel
theorem dX7_readToken_34 : decode cX7_readToken 34 = .ok (.bipush 10, 2) := by decide +kernel
theorem dX7_readToken_36 : decode cX7_readToken 36 = .ok (.if_icmp .ne 16, 3) := by decide +kernel
theorem dX7_readToken_39 : decode cX7_readToken 39 = .ok (.aload_n 0, 1) := by decide +kernel
theorem dX7_readToken_40 : decode cX7_readToken 40 = .ok (.dup, 1) := by decide +kernel
theorem dX7_readToken_41 : decode cX7_readToken 41 = .ok (.getfield 28, 3) := by decide +kernel
theorem dX7_readToken_44 : decode cX7_readToken 44 = .ok (.iconst 1, 1) := by decide +kernel
theorem dX7_readToken_45 : decode cX7_readToken 45 = .ok (.iadd, 1) := by decide +kernel
theorem dX7_readToken_46 : decode cX7_readToken 46 = .ok (.putfield 28, 3) := by decide +kernel
theorem dX7_readToken_49 : decode cX7_readToken 49 = .ok (.goto (-49), 3) := by decide +kernel
theorem dX7_readToken_52 : decode cX7_readToken 52 = .ok (.aload_n 0, 1) := by decide +kernel
theorem dX7_readToken_53 : decode cX7_readToken 53 = .ok (.aload_n 0, 1) := by decide +kernel
theorem dX7_readToken_54 : decode cX7_readToken 54 = .ok (.getfield 28, 3) := by decide +kernel
theorem dX7_readToken_57 : decode cX7_readToken 57 = .ok (.putfield 99, 3) := by decide +kernel
theorem dX7_readToken_60 : decode cX7_readToken 60 = .ok (.aload_n 0, 1) := by decide +kernel
theorem dX7_readToken_61 : decode cX7_readToken 61 = .ok (.getfield 28, 3) := by decide +kernel
theorem dX7_readToken_64 : decode cX7_readToken 64 = .ok (.aload_n 0, 1) := by decide +kernel
theorem dX7_readToken_65 : decode cX7_readToken 65 = .ok (.getfield 25, 3) := by decide +kernel
theorem dX7_readToken_68 : decode cX7_readToken 68 = .ok (.if_icmp .lt 9, 3) := by decide +kernel
theorem dX7_readToken_71 : decode cX7_readToken 71 = .ok (.aload_n 0, 1) := by decide +kernel
theorem dX7_readToken_72 : decode cX7_readToken 72 = .ok (.iconst 0, 1) := by decide +kernel
theorem dX7_readToken_73 : decode cX7_readToken 73 = .ok (.putfield 62, 3) := by decide +kernel
theorem dX7_readToken_76 : decode cX7_readToken 76 = .ok (.return_, 1) := by decide +kernel
theorem dX7_readToken_77 : decode cX7_readToken 77 = .ok (.aload_n 0, 1) := by decide +kernel
theorem dX7_readToken_78 : decode cX7_readToken 78 = .ok (.getfield 9, 3) := by decide +kernel
theorem dX7_readToken_81 : decode cX7_readToken 81 = .ok (.aload_n 0, 1) := by decide +kernel
theorem dX7_readToken_82 : decode cX7_readToken 82 = .ok (.getfield 28, 3) := by decide +kernel
theorem dX7_readToken_85 : decode cX7_readToken 85 = .ok (.iaload, 1) := by decide +kernel
theorem dX7_readToken_86 : decode cX7_readToken 86 = .ok (.istore_n 1, 1) := by decide +kernel
theorem dX7_readToken_87 : decode cX7_readToken 87 = .ok (.iload_n 1, 1) := by decide +kernel
theorem dX7_readToken_88 : decode cX7_readToken 88 = .ok (.invokestatic 111, 3) := by decide +kernel
theorem dX7_readToken_91 : decode cX7_readToken 91 = .ok (.ifCond .eq 47, 3) := by decide +kernel
theorem dX7_readToken_94 : decode cX7_readToken 94 = .ok (.aload_n 0, 1) := by decide +kernel
theorem dX7_readToken_95 : decode cX7_readToken 95 = .ok (.iconst 1, 1) := by decide +kernel
theorem dX7_readToken_96 : decode cX7_readToken 96 = .ok (.putfield 62, 3) := by decide +kernel
theorem dX7_readToken_99 : decode cX7_readToken 99 = .ok (.aload_n 0, 1) := by decide +kernel
theorem dX7_readToken_100 : decode cX7_readToken 100 = .ok (.getfield 28, 3) := by decide +kernel
theorem dX7_readToken_103 : decode cX7_readToken 103 = .ok (.aload_n 0, 1) := by decide +kernel
theorem dX7_readToken_104 : decode cX7_readToken 104 = .ok (.getfield 25, 3) := by decide +kernel
theorem dX7_readToken_107 : decode cX7_readToken 107 = .ok (.if_icmp .ge 152, 3) := by decide +kernel
theorem dX7_readToken_110 : decode cX7_readToken 110 = .ok (.aload_n 0, 1) := by decide +kernel
theorem dX7_readToken_111 : decode cX7_readToken 111 = .ok (.getfield 9, 3) := by decide +kernel
theorem dX7_readToken_114 : decode cX7_readToken 114 = .ok (.aload_n 0, 1) := by decide +kernel
theorem dX7_readToken_115 : decode cX7_readToken 115 = .ok (.getfield 28, 3) := by decide +kernel
theorem dX7_readToken_118 : decode cX7_readToken 118 = .ok (.iaload, 1) := by decide +kernel
theorem dX7_readToken_119 : decode cX7_readToken 119 = .ok (.invokestatic 111, 3) := by decide +kernel
theorem dX7_readToken_122 : decode cX7_readToken 122 = .ok (.ifCond .eq 137, 3) := by decide +kernel
theorem dX7_readToken_125 : decode cX7_readToken 125 = .ok (.aload_n 0, 1) := by decide +kernel
theorem dX7_readToken_126 : decode cX7_readToken 126 = .ok (.dup, 1) := by decide +kernel
theorem dX7_readToken_127 : decode cX7_readToken 127 = .ok (.getfield 28, 3) := by decide +kernel
theorem dX7_readToken_130 : decode cX7_readToken 130 = .ok (.iconst 1, 1) := by decide +kernel
theorem dX7_readToken_131 : decode cX7_readToken 131 = .ok (.iadd, 1) := by decide +kernel
theorem dX7_readToken_132 : decode cX7_readToken 132 = .ok (.putfield 28, 3) := by decide +kernel
theorem dX7_readToken_135 : decode cX7_readToken 135 = .ok (.goto (-36), 3) := by decide +kernel
theorem dX7_readToken_138 : decode cX7_readToken 138 = .ok (.iload_n 1, 1) := by decide +kernel
theorem dX7_readToken_139 : decode cX7_readToken 139 = .ok (.invokestatic 115, 3) := by decide +kernel
theorem dX7_readToken_142 : decode cX7_readToken 142 = .ok (.ifCond .eq 82, 3) := by decide +kernel
theorem dX7_readToken_145 : decode cX7_readToken 145 = .ok (.aload_n 0, 1) := by decide +kernel
theorem dX7_readToken_146 : decode cX7_readToken 146 = .ok (.iconst 2, 1) := by decide +kernel
theorem dX7_readToken_147 : decode cX7_readToken 147 = .ok (.putfield 62, 3) := by decide +kernel
theorem dX7_readToken_150 : decode cX7_readToken 150 = .ok (.aload_n 0, 1) := by decide +kernel
theorem dX7_readToken_151 : decode cX7_readToken 151 = .ok (.iconst 0, 1) := by decide +kernel
theorem dX7_readToken_152 : decode cX7_readToken 152 = .ok (.putfield 89, 3) := by decide +kernel
theorem dX7_readToken_155 : decode cX7_readToken 155 = .ok (.aload_n 0, 1) := by decide +kernel
theorem dX7_readToken_156 : decode cX7_readToken 156 = .ok (.getfield 28, 3) := by decide +kernel
theorem dX7_readToken_159 : decode cX7_readToken 159 = .ok (.aload_n 0, 1) := by decide +kernel
theorem dX7_readToken_160 : decode cX7_readToken 160 = .ok (.getfield 25, 3) := by decide +kernel
theorem dX7_readToken_163 : decode cX7_readToken 163 = .ok (.if_icmp .ge 96, 3) := by decide +kernel
theorem dX7_readToken_166 : decode cX7_readToken 166 = .ok (.aload_n 0, 1) := by decide +kernel
theorem dX7_readToken_167 : decode cX7_readToken 167 = .ok (.getfield 9, 3) := by decide +kernel
theorem dX7_readToken_170 : decode cX7_readToken 170 = .ok (.aload_n 0, 1) := by decide +kernel
theorem dX7_readToken_171 : decode cX7_readToken 171 = .ok (.getfield 28, 3) := by decide +kernel
theorem dX7_readToken_174 : decode cX7_readToken 174 = .ok (.iaload, 1) := by decide +kernel
theorem dX7_readToken_175 : decode cX7_readToken 175 = .ok (.invokestatic 115, 3) := by decide +kernel
theorem dX7_readToken_178 : decode cX7_readToken 178 = .ok (.ifCond .eq 81, 3) := by decide +kernel
theorem dX7_readToken_181 : decode cX7_readToken 181 = .ok (.aload_n 0, 1) := by decide +kernel
theorem dX7_readToken_182 : decode cX7_readToken 182 = .ok (.aload_n 0, 1) := by decide +kernel
theorem dX7_readToken_183 : decode cX7_readToken 183 = .ok (.getfield 89, 3) := by decide +kernel
theorem dX7_readToken_186 : decode cX7_readToken 186 = .ok (.bipush 10, 2) := by decide +kernel
theorem dX7_readToken_188 : decode cX7_readToken 188 = .ok (.imul, 1) := by decide +kernel
theorem dX7_readToken_189 : decode cX7_readToken 189 = .ok (.aload_n 0, 1) := by decide +kernel
theorem dX7_readToken_190 : decode cX7_readToken 190 = .ok (.getfield 9, 3) := by decide +kernel
theorem dX7_readToken_193 : decode cX7_readToken 193 = .ok (.aload_n 0, 1) := by decide +kernel
theorem dX7_readToken_194 : decode cX7_readToken 194 = .ok (.getfield 28, 3) := by decide +kernel
theorem dX7_readToken_197 : decode cX7_readToken 197 = .ok (.iaload, 1) := by decide +kernel
theorem dX7_readToken_198 : decode cX7_readToken 198 = .ok (.iadd, 1) := by decide +kernel
theorem dX7_readToken_199 : decode cX7_readToken 199 = .ok (.bipush 48, 2) := by decide +kernel
theorem dX7_readToken_201 : decode cX7_readToken 201 = .ok (.isub, 1) := by decide +kernel
theorem dX7_readToken_202 : decode cX7_readToken 202 = .ok (.sipush 1000, 3) := by decide +kernel
theorem dX7_readToken_205 : decode cX7_readToken 205 = .ok (.invokestatic 118, 3) := by decide +kernel
theorem dX7_readToken_208 : decode cX7_readToken 208 = .ok (.putfield 89, 3) := by decide +kernel
theorem dX7_readToken_211 : decode cX7_readToken 211 = .ok (.aload_n 0, 1) := by decide +kernel
theorem dX7_readToken_212 : decode cX7_readToken 212 = .ok (.dup, 1) := by decide +kernel
theorem dX7_readToken_213 : decode cX7_readToken 213 = .ok (.getfield 28, 3) := by decide +kernel
theorem dX7_readToken_216 : decode cX7_readToken 216 = .ok (.iconst 1, 1) := by decide +kernel
theorem dX7_readToken_217 : decode cX7_readToken 217 = .ok (.iadd, 1) := by decide +kernel
theorem dX7_readToken_218 : decode cX7_readToken 218 = .ok (.putfield 28, 3) := by decide +kernel
theorem dX7_readToken_221 : decode cX7_readToken 221 = .ok (.goto (-66), 3) := by decide +kernel
theorem dX7_readToken_224 : decode cX7_readToken 224 = .ok (.aload_n 0, 1) := by decide +kernel
theorem dX7_readToken_225 : decode cX7_readToken 225 = .ok (.iload_n 1, 1) := by decide +kernel
theorem dX7_readToken_226 : decode cX7_readToken 226 = .ok (.bipush 46, 2) := by decide +kernel
theorem dX7_readToken_228 : decode cX7_readToken 228 = .ok (.if_icmp .ne 7, 3) := by decide +kernel
theorem dX7_readToken_231 : decode cX7_readToken 231 = .ok (.iconst 3, 1) := by decide +kernel
theorem dX7_readToken_232 : decode cX7_readToken 232 = .ok (.goto 14, 3) := by decide +kernel
theorem dX7_readToken_235 : decode cX7_readToken 235 = .ok (.iload_n 1, 1) := by decide +kernel
theorem dX7_readToken_236 : decode cX7_readToken 236 = .ok (.bipush 59, 2) := by decide +kernel
theorem dX7_readToken_238 : decode cX7_readToken 238 = .ok (.if_icmp .ne 7, 3) := by decide +kernel
theorem dX7_readToken_241 : decode cX7_readToken 241 = .ok (.iconst 4, 1) := by decide +kernel
theorem dX7_readToken_242 : decode cX7_readToken 242 = .ok (.goto 4, 3) := by decide +kernel
theorem dX7_readToken_245 : decode cX7_readToken 245 = .ok (.iconst 5, 1) := by decide +kernel
theorem dX7_readToken_246 : decode cX7_readToken 246 = .ok (.putfield 62, 3) := by decide +kernel
theorem dX7_readToken_249 : decode cX7_readToken 249 = .ok (.aload_n 0, 1) := by decide +kernel
theorem dX7_readToken_250 : decode cX7_readToken 250 = .ok (.dup, 1) := by decide +kernel
theorem dX7_readToken_251 : decode cX7_readToken 251 = .ok (.getfield 28, 3) := by decide +kernel
theorem dX7_readToken_254 : decode cX7_readToken 254 = .ok (.iconst 1, 1) := by decide +kernel
theorem dX7_readToken_255 : decode cX7_readToken 255 = .ok (.iadd, 1) := by decide +kernel
theorem dX7_readToken_256 : decode cX7_readToken 256 = .ok (.putfield 28, 3) := by decide +kernel
theorem dX7_readToken_259 : decode cX7_readToken 259 = .ok (.return_, 1) := by decide +kernel
theorem dX7_isLetter_0 : decode cX7_isLetter 0 = .ok (.iload_n 0, 1) := by decide +kernel
theorem dX7_isLetter_1 : decode cX7_isLetter 1 = .ok (.bipush 97, 2) := by decide +kernel
theorem dX7_isLetter_3 : decode cX7_isLetter 3 = .ok (.if_icmp .lt 13, 3) := by decide +kernel
theorem dX7_isLetter_6 : decode cX7_isLetter 6 = .ok (.iload_n 0, 1) := by decide +kernel
theorem dX7_isLetter_7 : decode cX7_isLetter 7 = .ok (.bipush 122, 2) := by decide +kernel
theorem dX7_isLetter_9 : decode cX7_isLetter 9 = .ok (.if_icmp .gt 7, 3) := by decide +kernel
theorem dX7_isLetter_12 : decode cX7_isLetter 12 = .ok (.iconst 1, 1) := by decide +kernel
theorem dX7_isLetter_13 : decode cX7_isLetter 13 = .ok (.goto 4, 3) := by decide +kernel
theorem dX7_isLetter_16 : decode cX7_isLetter 16 = .ok (.iconst 0, 1) := by decide +kernel
theorem dX7_isLetter_17 : decode cX7_isLetter 17 = .ok (.ireturn, 1) := by decide +kernel
theorem dX7_isDigit_0 : decode cX7_isDigit 0 = .ok (.iload_n 0, 1) := by decide +kernel
theorem dX7_isDigit_1 : decode cX7_isDigit 1 = .ok (.bipush 48, 2) := by decide +kernel
theorem dX7_isDigit_3 : decode cX7_isDigit 3 = .ok (.if_icmp .lt 13, 3) := by decide +kernel
theorem dX7_isDigit_6 : decode cX7_isDigit 6 = .ok (.iload_n 0, 1) := by decide +kernel
theorem dX7_isDigit_7 : decode cX7_isDigit 7 = .ok (.bipush 57, 2) := by decide +kernel
theorem dX7_isDigit_9 : decode cX7_isDigit 9 = .ok (.if_icmp .gt 7, 3) := by decide +kernel
theorem dX7_isDigit_12 : decode cX7_isDigit 12 = .ok (.iconst 1, 1) := by decide +kernel
theorem dX7_isDigit_13 : decode cX7_isDigit 13 = .ok (.goto 4, 3) := by decide +kernel
theorem dX7_isDigit_16 : decode cX7_isDigit 16 = .ok (.iconst 0, 1) := by decide +kernel
theorem dX7_isDigit_17 : decode cX7_isDigit 17 = .ok (.ireturn, 1) := by decide +kernel
theorem dX8_init_0 : decode cX8_init 0 = .ok (.aload_n 0, 1) := by decide +kernel
theorem dX8_init_1 : decode cX8_init 1 = .ok (.invokespecial 3, 3) := by decide +kernel
theorem dX8_init_4 : decode cX8_init 4 = .ok (.aload_n 0, 1) := by decide +kernel
theorem dX8_init_5 : decode cX8_init 5 = .ok (.sipush 613, 3) := by decide +kernel
theorem dX8_init_8 : decode cX8_init 8 = .ok (.putfield 9, 3) := by decide +kernel
theorem dX8_init_11 : decode cX8_init 11 = .ok (.aload_n 0, 1) := by decide +kernel
theorem dX8_init_12 : decode cX8_init 12 = .ok (.bipush 48, 2) := by decide +kernel
theorem dX8_init_14 : decode cX8_init 14 = .ok (.newarray .int, 2) := by decide +kernel
theorem dX8_init_16 : decode cX8_init 16 = .ok (.putfield 15, 3) := by decide +kernel
theorem dX8_init_19 : decode cX8_init 19 = .ok (.aload_n 0, 1) := by decide +kernel
theorem dX8_init_20 : decode cX8_init 20 = .ok (.bipush 48, 2) := by decide +kernel
theorem dX8_init_22 : decode cX8_init 22 = .ok (.newarray .int, 2) := by decide +kernel
theorem dX8_init_24 : decode cX8_init 24 = .ok (.putfield 19, 3) := by decide +kernel
theorem dX8_init_27 : decode cX8_init 27 = .ok (.aload_n 0, 1) := by decide +kernel
theorem dX8_init_28 : decode cX8_init 28 = .ok (.bipush 48, 2) := by decide +kernel
theorem dX8_init_30 : decode cX8_init 30 = .ok (.newarray .int, 2) := by decide +kernel
theorem dX8_init_32 : decode cX8_init 32 = .ok (.putfield 22, 3) := by decide +kernel
theorem dX8_init_35 : decode cX8_init 35 = .ok (.aload_n 0, 1) := by decide +kernel
theorem dX8_init_36 : decode cX8_init 36 = .ok (.sipush 192, 3) := by decide +kernel
theorem dX8_init_39 : decode cX8_init 39 = .ok (.newarray .int, 2) := by decide +kernel
theorem dX8_init_41 : decode cX8_init 41 = .ok (.putfield 25, 3) := by decide +kernel
theorem dX8_init_44 : decode cX8_init 44 = .ok (.aload_n 0, 1) := by decide +kernel
theorem dX8_init_45 : decode cX8_init 45 = .ok (.bipush 48, 2) := by decide +kernel
theorem dX8_init_47 : decode cX8_init 47 = .ok (.newarray .int, 2) := by decide +kernel
theorem dX8_init_49 : decode cX8_init 49 = .ok (.putfield 28, 3) := by decide +kernel
theorem dX8_init_52 : decode cX8_init 52 = .ok (.aload_n 0, 1) := by decide +kernel
theorem dX8_init_53 : decode cX8_init 53 = .ok (.iconst 4, 1) := by decide +kernel
theorem dX8_init_54 : decode cX8_init 54 = .ok (.newarray .int, 2) := by decide +kernel
theorem dX8_init_56 : decode cX8_init 56 = .ok (.putfield 31, 3) := by decide +kernel
theorem dX8_init_59 : decode cX8_init 59 = .ok (.aload_n 0, 1) := by decide +kernel
theorem dX8_init_60 : decode cX8_init 60 = .ok (.bipush 8, 2) := by decide +kernel
theorem dX8_init_62 : decode cX8_init 62 = .ok (.newarray .int, 2) := by decide +kernel
theorem dX8_init_64 : decode cX8_init 64 = .ok (.putfield 34, 3) := by decide +kernel
theorem dX8_init_67 : decode cX8_init 67 = .ok (.aload_n 0, 1) := by decide +kernel
theorem dX8_init_68 : decode cX8_init 68 = .ok (.aload_n 1, 1) := by decide +kernel
theorem dX8_init_69 : decode cX8_init 69 = .ok (.putfield 37, 3) := by decide +kernel
theorem dX8_init_72 : decode cX8_init 72 = .ok (.return_, 1) := by decide +kernel
theorem dX8_copyFrom_0 : decode cX8_copyFrom 0 = .ok (.aload_n 0, 1) := by decide +kernel
theorem dX8_copyFrom_1 : decode cX8_copyFrom 1 = .ok (.aload_n 1, 1) := by decide +kernel
theorem dX8_copyFrom_2 : decode cX8_copyFrom 2 = .ok (.getfield 37, 3) := by decide +kernel
theorem dX8_copyFrom_5 : decode cX8_copyFrom 5 = .ok (.putfield 37, 3) := by decide +kernel
theorem dX8_copyFrom_8 : decode cX8_copyFrom 8 = .ok (.aload_n 0, 1) := by decide +kernel
theorem dX8_copyFrom_9 : decode cX8_copyFrom 9 = .ok (.aload_n 1, 1) := by decide +kernel
theorem dX8_copyFrom_10 : decode cX8_copyFrom 10 = .ok (.getfield 41, 3) := by decide +kernel
theorem dX8_copyFrom_13 : decode cX8_copyFrom 13 = .ok (.putfield 41, 3) := by decide +kernel
theorem dX8_copyFrom_16 : decode cX8_copyFrom 16 = .ok (.aload_n 0, 1) := by decide +kernel
theorem dX8_copyFrom_17 : decode cX8_copyFrom 17 = .ok (.aload_n 1, 1) := by decide +kernel
theorem dX8_copyFrom_18 : decode cX8_copyFrom 18 = .ok (.getfield 9, 3) := by decide +kernel
theorem dX8_copyFrom_21 : decode cX8_copyFrom 21 = .ok (.putfield 9, 3) := by decide +kernel
theorem dX8_copyFrom_24 : decode cX8_copyFrom 24 = .ok (.aload_n 0, 1) := by decide +kernel
theorem dX8_copyFrom_25 : decode cX8_copyFrom 25 = .ok (.aload_n 1, 1) := by decide +kernel
theorem dX8_copyFrom_26 : decode cX8_copyFrom 26 = .ok (.getfield 45, 3) := by decide +kernel
theorem dX8_copyFrom_29 : decode cX8_copyFrom 29 = .ok (.putfield 45, 3) := by decide +kernel
theorem dX8_copyFrom_32 : decode cX8_copyFrom 32 = .ok (.aload_n 0, 1) := by decide +kernel
theorem dX8_copyFrom_33 : decode cX8_copyFrom 33 = .ok (.aload_n 1, 1) := by decide +kernel
theorem dX8_copyFrom_34 : decode cX8_copyFrom 34 = .ok (.getfield 48, 3) := by decide +kernel
theorem dX8_copyFrom_37 : decode cX8_copyFrom 37 = .ok (.putfield 48, 3) := by decide +kernel
theorem dX8_copyFrom_40 : decode cX8_copyFrom 40 = .ok (.aload_n 0, 1) := by decide +kernel
theorem dX8_copyFrom_41 : decode cX8_copyFrom 41 = .ok (.aload_n 1, 1) := by decide +kernel
theorem dX8_copyFrom_42 : decode cX8_copyFrom 42 = .ok (.getfield 51, 3) := by decide +kernel
theorem dX8_copyFrom_45 : decode cX8_copyFrom 45 = .ok (.putfield 51, 3) := by decide +kernel
theorem dX8_copyFrom_48 : decode cX8_copyFrom 48 = .ok (.aload_n 0, 1) := by decide +kernel
theorem dX8_copyFrom_49 : decode cX8_copyFrom 49 = .ok (.aload_n 1, 1) := by decide +kernel
theorem dX8_copyFrom_50 : decode cX8_copyFrom 50 = .ok (.getfield 54, 3) := by decide +kernel
theorem dX8_copyFrom_53 : decode cX8_copyFrom 53 = .ok (.putfield 54, 3) := by decide +kernel
theorem dX8_copyFrom_56 : decode cX8_copyFrom 56 = .ok (.aload_n 0, 1) := by decide +kernel
theorem dX8_copyFrom_57 : decode cX8_copyFrom 57 = .ok (.aload_n 1, 1) := by decide +kernel
theorem dX8_copyFrom_58 : decode cX8_copyFrom 58 = .ok (.getfield 57, 3) := by decide +kernel
theorem dX8_copyFrom_61 : decode cX8_copyFrom 61 = .ok (.putfield 57, 3) := by decide +kernel
theorem dX8_copyFrom_64 : decode cX8_copyFrom 64 = .ok (.aload_n 0, 1) := by decide +kernel
theorem dX8_copyFrom_65 : decode cX8_copyFrom 65 = .ok (.aload_n 1, 1) := by decide +kernel
theorem dX8_copyFrom_66 : decode cX8_copyFrom 66 = .ok (.getfield 60, 3) := by decide +kernel
theorem dX8_copyFrom_69 : decode cX8_copyFrom 69 = .ok (.putfield 60, 3) := by decide +kernel
theorem dX8_copyFrom_72 : decode cX8_copyFrom 72 = .ok (.aload_n 0, 1) := by decide +kernel
theorem dX8_copyFrom_73 : decode cX8_copyFrom 73 = .ok (.aload_n 1, 1) := by decide +kernel
theorem dX8_copyFrom_74 : decode cX8_copyFrom 74 = .ok (.getfield 63, 3) := by decide +kernel
theorem dX8_copyFrom_77 : decode cX8_copyFrom 77 = .ok (.putfield 63, 3) := by decide +kernel
theorem dX8_copyFrom_80 : decode cX8_copyFrom 80 = .ok (.aload_n 1, 1) := by decide +kernel
theorem dX8_copyFrom_81 : decode cX8_copyFrom 81 = .ok (.getfield 15, 3) := by decide +kernel
theorem dX8_copyFrom_84 : decode cX8_copyFrom 84 = .ok (.iconst 0, 1) := by decide +kernel
theorem dX8_copyFrom_85 : decode cX8_copyFrom 85 = .ok (.aload_n 0, 1) := by decide +kernel
theorem dX8_copyFrom_86 : decode cX8_copyFrom 86 = .ok (.getfield 15, 3) := by decide +kernel
theorem dX8_copyFrom_89 : decode cX8_copyFrom 89 = .ok (.iconst 0, 1) := by decide +kernel
theorem dX8_copyFrom_90 : decode cX8_copyFrom 90 = .ok (.bipush 48, 2) := by decide +kernel
theorem dX8_copyFrom_92 : decode cX8_copyFrom 92 = .ok (.invokestatic 66, 3) := by decide +kernel
theorem dX8_copyFrom_95 : decode cX8_copyFrom 95 = .ok (.aload_n 1, 1) := by decide +kernel
theorem dX8_copyFrom_96 : decode cX8_copyFrom 96 = .ok (.getfield 19, 3) := by decide +kernel
theorem dX8_copyFrom_99 : decode cX8_copyFrom 99 = .ok (.iconst 0, 1) := by decide +kernel
theorem dX8_copyFrom_100 : decode cX8_copyFrom 100 = .ok (.aload_n 0, 1) := by decide +kernel
theorem dX8_copyFrom_101 : decode cX8_copyFrom 101 = .ok (.getfield 19, 3) := by decide +kernel
theorem dX8_copyFrom_104 : decode cX8_copyFrom 104 = .ok (.iconst 0, 1) := by decide +kernel
theorem dX8_copyFrom_105 : decode cX8_copyFrom 105 = .ok (.bipush 48, 2) := by decide +kernel
theorem dX8_copyFrom_107 : decode cX8_copyFrom 107 = .ok (.invokestatic 66, 3) := by decide +kernel
theorem dX8_copyFrom_110 : decode cX8_copyFrom 110 = .ok (.aload_n 1, 1) := by decide +kernel
theorem dX8_copyFrom_111 : decode cX8_copyFrom 111 = .ok (.getfield 22, 3) := by decide +kernel
theorem dX8_copyFrom_114 : decode cX8_copyFrom 114 = .ok (.iconst 0, 1) := by decide +kernel
theorem dX8_copyFrom_115 : decode cX8_copyFrom 115 = .ok (.aload_n 0, 1) := by decide +kernel
theorem dX8_copyFrom_116 : decode cX8_copyFrom 116 = .ok (.getfield 22, 3) := by decide +kernel
theorem dX8_copyFrom_119 : decode cX8_copyFrom 119 = .ok (.iconst 0, 1) := by decide +kernel
theorem dX8_copyFrom_120 : decode cX8_copyFrom 120 = .ok (.bipush 48, 2) := by decide +kernel
theorem dX8_copyFrom_122 : decode cX8_copyFrom 122 = .ok (.invokestatic 66, 3) := by decide +kernel
theorem dX8_copyFrom_125 : decode cX8_copyFrom 125 = .ok (.aload_n 1, 1) := by decide +kernel
theorem dX8_copyFrom_126 : decode cX8_copyFrom 126 = .ok (.getfield 25, 3) := by decide +kernel
theorem dX8_copyFrom_129 : decode cX8_copyFrom 129 = .ok (.iconst 0, 1) := by decide +kernel
theorem dX8_copyFrom_130 : decode cX8_copyFrom 130 = .ok (.aload_n 0, 1) := by decide +kernel
theorem dX8_copyFrom_131 : decode cX8_copyFrom 131 = .ok (.getfield 25, 3) := by decide +kernel
theorem dX8_copyFrom_134 : decode cX8_copyFrom 134 = .ok (.iconst 0, 1) := by decide +kernel
theorem dX8_copyFrom_135 : decode cX8_copyFrom 135 = .ok (.sipush 192, 3) := by decide +kernel
theorem dX8_copyFrom_138 : decode cX8_copyFrom 138 = .ok (.invokestatic 66, 3) := by decide +kernel
theorem dX8_copyFrom_141 : decode cX8_copyFrom 141 = .ok (.aload_n 1, 1) := by decide +kernel
theorem dX8_copyFrom_142 : decode cX8_copyFrom 142 = .ok (.getfield 28, 3) := by decide +kernel
theorem dX8_copyFrom_145 : decode cX8_copyFrom 145 = .ok (.iconst 0, 1) := by decide +kernel
theorem dX8_copyFrom_146 : decode cX8_copyFrom 146 = .ok (.aload_n 0, 1) := by decide +kernel
theorem dX8_copyFrom_147 : decode cX8_copyFrom 147 = .ok (.getfield 28, 3) := by decide +kernel
theorem dX8_copyFrom_150 : decode cX8_copyFrom 150 = .ok (.iconst 0, 1) := by decide +kernel
theorem dX8_copyFrom_151 : decode cX8_copyFrom 151 = .ok (.bipush 48, 2) := by decide +kernel
theorem dX8_copyFrom_153 : decode cX8_copyFrom 153 = .ok (.invokestatic 66, 3) := by decide +kernel
theorem dX8_copyFrom_156 : decode cX8_copyFrom 156 = .ok (.aload_n 1, 1) := by decide +kernel
theorem dX8_copyFrom_157 : decode cX8_copyFrom 157 = .ok (.getfield 31, 3) := by decide +kernel
theorem dX8_copyFrom_160 : decode cX8_copyFrom 160 = .ok (.iconst 0, 1) := by decide +kernel
theorem dX8_copyFrom_161 : decode cX8_copyFrom 161 = .ok (.aload_n 0, 1) := by decide +kernel
theorem dX8_copyFrom_162 : decode cX8_copyFrom 162 = .ok (.getfield 31, 3) := by decide +kernel
theorem dX8_copyFrom_165 : decode cX8_copyFrom 165 = .ok (.iconst 0, 1) := by decide +kernel
theorem dX8_copyFrom_166 : decode cX8_copyFrom 166 = .ok (.iconst 4, 1) := by decide +kernel
theorem dX8_copyFrom_167 : decode cX8_copyFrom 167 = .ok (.invokestatic 66, 3) := by decide +kernel
theorem dX8_copyFrom_170 : decode cX8_copyFrom 170 = .ok (.return_, 1) := by decide +kernel
theorem dX8_come_0 : decode cX8_come 0 = .ok (.aload_n 0, 1) := by decide +kernel
theorem dX8_come_1 : decode cX8_come 1 = .ok (.aload_n 1, 1) := by decide +kernel
theorem dX8_come_2 : decode cX8_come 2 = .ok (.putfield 37, 3) := by decide +kernel
theorem dX8_come_5 : decode cX8_come 5 = .ok (.aload_n 0, 1) := by decide +kernel
theorem dX8_come_6 : decode cX8_come 6 = .ok (.lconst 0, 1) := by decide +kernel
theorem dX8_come_7 : decode cX8_come 7 = .ok (.putfield 41, 3) := by decide +kernel
theorem dX8_come_10 : decode cX8_come 10 = .ok (.aload_n 0, 1) := by decide +kernel
theorem dX8_come_11 : decode cX8_come 11 = .ok (.getfield 15, 3) := by decide +kernel
theorem dX8_come_14 : decode cX8_come 14 = .ok (.iconst 0, 1) := by decide +kernel
theorem dX8_come_15 : decode cX8_come 15 = .ok (.invokestatic 72, 3) := by decide +kernel
theorem dX8_come_18 : decode cX8_come 18 = .ok (.aload_n 1, 1) := by decide +kernel
theorem dX8_come_19 : decode cX8_come 19 = .ok (.getfield 78, 3) := by decide +kernel
theorem dX8_come_22 : decode cX8_come 22 = .ok (.iconst 0, 1) := by decide +kernel
theorem dX8_come_23 : decode cX8_come 23 = .ok (.aload_n 0, 1) := by decide +kernel
theorem dX8_come_24 : decode cX8_come 24 = .ok (.getfield 31, 3) := by decide +kernel
theorem dX8_come_27 : decode cX8_come 27 = .ok (.invokestatic 83, 3) := by decide +kernel
theorem dX8_come_30 : decode cX8_come 30 = .ok (.aload_n 0, 1) := by decide +kernel
theorem dX8_come_31 : decode cX8_come 31 = .ok (.iconst 0, 1) := by decide +kernel
theorem dX8_come_32 : decode cX8_come 32 = .ok (.invokevirtual 87, 3) := by decide +kernel
theorem dX8_come_35 : decode cX8_come 35 = .ok (.return_, 1) := by decide +kernel
theorem dX8_start_0 : decode cX8_start 0 = .ok (.aload_n 0, 1) := by decide +kernel
theorem dX8_start_1 : decode cX8_start 1 = .ok (.iload_n 1, 1) := by decide +kernel
theorem dX8_start_2 : decode cX8_start 2 = .ok (.putfield 45, 3) := by decide +kernel
theorem dX8_start_5 : decode cX8_start 5 = .ok (.aload_n 0, 1) := by decide +kernel
theorem dX8_start_6 : decode cX8_start 6 = .ok (.iconst 0, 1) := by decide +kernel
theorem dX8_start_7 : decode cX8_start 7 = .ok (.putfield 51, 3) := by decide +kernel
theorem dX8_start_10 : decode cX8_start 10 = .ok (.aload_n 0, 1) := by decide +kernel
theorem dX8_start_11 : decode cX8_start 11 = .ok (.iconst 0, 1) := by decide +kernel
theorem dX8_start_12 : decode cX8_start 12 = .ok (.putfield 54, 3) := by decide +kernel
theorem dX8_start_15 : decode cX8_start 15 = .ok (.aload_n 0, 1) := by decide +kernel
theorem dX8_start_16 : decode cX8_start 16 = .ok (.iconst 0, 1) := by decide +kernel
theorem dX8_start_17 : decode cX8_start 17 = .ok (.putfield 57, 3) := by decide +kernel
theorem dX8_start_20 : decode cX8_start 20 = .ok (.aload_n 0, 1) := by decide +kernel
theorem dX8_start_21 : decode cX8_start 21 = .ok (.getfield 15, 3) := by decide +kernel
theorem dX8_start_24 : decode cX8_start 24 = .ok (.iconst 0, 1) := by decide +kernel
theorem dX8_start_25 : decode cX8_start 25 = .ok (.aload_n 0, 1) := by decide +kernel
theorem dX8_start_26 : decode cX8_start 26 = .ok (.getfield 19, 3) := by decide +kernel
theorem dX8_start_29 : decode cX8_start 29 = .ok (.iconst 0, 1) := by decide +kernel
theorem dX8_start_30 : decode cX8_start 30 = .ok (.bipush 48, 2) := by decide +kernel
theorem dX8_start_32 : decode cX8_start 32 = .ok (.invokestatic 66, 3) := by decide +kernel
theorem dX8_start_35 : decode cX8_start 35 = .ok (.aload_n 0, 1) := by decide +kernel
theorem dX8_start_36 : decode cX8_start 36 = .ok (.getfield 25, 3) := by decide +kernel
theorem dX8_start_39 : decode cX8_start 39 = .ok (.iconst 0, 1) := by decide +kernel
theorem dX8_start_40 : decode cX8_start 40 = .ok (.invokestatic 72, 3) := by decide +kernel
theorem dX8_start_43 : decode cX8_start 43 = .ok (.aload_n 0, 1) := by decide +kernel
theorem dX8_start_44 : decode cX8_start 44 = .ok (.getfield 22, 3) := by decide +kernel
theorem dX8_start_47 : decode cX8_start 47 = .ok (.iconst 0, 1) := by decide +kernel
theorem dX8_start_48 : decode cX8_start 48 = .ok (.invokestatic 72, 3) := by decide +kernel
theorem dX8_start_51 : decode cX8_start 51 = .ok (.aload_n 0, 1) := by decide +kernel
theorem dX8_start_52 : decode cX8_start 52 = .ok (.invokevirtual 91, 3) := by decide +kernel
theorem dX8_start_55 : decode cX8_start 55 = .ok (.aload_n 0, 1) := by decide +kernel
theorem dX8_start_56 : decode cX8_start 56 = .ok (.aload_n 0, 1) := by decide +kernel
theorem dX8_start_57 : decode cX8_start 57 = .ok (.getfield 63, 3) := by decide +kernel
theorem dX8_start_60 : decode cX8_start 60 = .ok (.ifCond .ne 7, 3) := by decide +kernel
theorem dX8_start_63 : decode cX8_start 63 = .ok (.iconst 1, 1) := by decide +kernel
theorem dX8_start_64 : decode cX8_start 64 = .ok (.goto 4, 3) := by decide +kernel
theorem dX8_start_67 : decode cX8_start 67 = .ok (.iconst 0, 1) := by decide +kernel
theorem dX8_start_68 : decode cX8_start 68 = .ok (.putfield 48, 3) := by decide +kernel
theorem dX8_start_71 : decode cX8_start 71 = .ok (.return_, 1) := by decide +kernel
theorem dX8_draw_0 : decode cX8_draw 0 = .ok (.iconst 0, 1) := by decide +kernel
theorem dX8_draw_1 : decode cX8_draw 1 = .ok (.istore_n 3, 1) := by decide +kernel
theorem dX8_draw_2 : decode cX8_draw 2 = .ok (.iconst 0, 1) := by decide +kernel
theorem dX8_draw_3 : decode cX8_draw 3 = .ok (.istore 4, 2) := by decide +kernel
theorem dX8_draw_5 : decode cX8_draw 5 = .ok (.iload 4, 2) := by decide +kernel
theorem dX8_draw_7 : decode cX8_draw 7 = .ok (.aload_n 0, 1) := by decide +kernel
theorem dX8_draw_8 : decode cX8_draw 8 = .ok (.getfield 37, 3) := by decide +kernel
theorem dX8_draw_11 : decode cX8_draw 11 = .ok (.getfield 94, 3) := by decide +kernel
theorem dX8_draw_14 : decode cX8_draw 14 = .ok (.if_icmp .ge 79, 3) := by decide +kernel
theorem dX8_draw_17 : decode cX8_draw 17 = .ok (.aload_n 0, 1) := by decide +kernel
theorem dX8_draw_18 : decode cX8_draw 18 = .ok (.aload_n 0, 1) := by decide +kernel
theorem dX8_draw_19 : decode cX8_draw 19 = .ok (.getfield 9, 3) := by decide +kernel
theorem dX8_draw_22 : decode cX8_draw 22 = .ok (.sipush 839, 3) := by decide +kernel
theorem dX8_draw_25 : decode cX8_draw 25 = .ok (.imul, 1) := by decide +kernel
theorem dX8_draw_26 : decode cX8_draw 26 = .ok (.sipush 577, 3) := by decide +kernel
theorem dX8_draw_29 : decode cX8_draw 29 = .ok (.iadd, 1) := by decide +kernel
theorem dX8_draw_30 : decode cX8_draw 30 = .ok (.sipush 30071, 3) := by decide +kernel
theorem dX8_draw_33 : decode cX8_draw 33 = .ok (.irem, 1) := by decide +kernel
theorem dX8_draw_34 : decode cX8_draw 34 = .ok (.putfield 9, 3) := by decide +kernel
theorem dX8_draw_37 : decode cX8_draw 37 = .ok (.aload_n 0, 1) := by decide +kernel
theorem dX8_draw_38 : decode cX8_draw 38 = .ok (.getfield 41, 3) := by decide +kernel
theorem dX8_draw_41 : decode cX8_draw 41 = .ok (.iload 4, 2) := by decide +kernel
theorem dX8_draw_43 : decode cX8_draw 43 = .ok (.lshr, 1) := by decide +kernel
theorem dX8_draw_44 : decode cX8_draw 44 = .ok (.lconst 1, 1) := by decide +kernel
theorem dX8_draw_45 : decode cX8_draw 45 = .ok (.land, 1) := by decide +kernel
theorem dX8_draw_46 : decode cX8_draw 46 = .ok (.lconst 0, 1) := by decide +kernel
theorem dX8_draw_47 : decode cX8_draw 47 = .ok (.lcmp, 1) := by decide +kernel
theorem dX8_draw_48 : decode cX8_draw 48 = .ok (.ifCond .eq 8, 3) := by decide +kernel
theorem dX8_draw_51 : decode cX8_draw 51 = .ok (.iload_n 1, 1) := by decide +kernel
theorem dX8_draw_52 : decode cX8_draw 52 = .ok (.ineg, 1) := by decide +kernel
theorem dX8_draw_53 : decode cX8_draw 53 = .ok (.goto 4, 3) := by decide +kernel
theorem dX8_draw_56 : decode cX8_draw 56 = .ok (.iload_n 1, 1) := by decide +kernel
theorem dX8_draw_57 : decode cX8_draw 57 = .ok (.istore 5, 2) := by decide +kernel
theorem dX8_draw_59 : decode cX8_draw 59 = .ok (.aload_n 0, 1) := by decide +kernel
theorem dX8_draw_60 : decode cX8_draw 60 = .ok (.getfield 9, 3) := by decide +kernel
theorem dX8_draw_63 : decode cX8_draw 63 = .ok (.bipush 100, 2) := by decide +kernel
theorem dX8_draw_65 : decode cX8_draw 65 = .ok (.irem, 1) := by decide +kernel
theorem dX8_draw_66 : decode cX8_draw 66 = .ok (.iload_n 2, 1) := by decide +kernel
theorem dX8_draw_67 : decode cX8_draw 67 = .ok (.if_icmp .ge 11, 3) := by decide +kernel
theorem dX8_draw_70 : decode cX8_draw 70 = .ok (.iload 5, 2) := by decide +kernel
theorem dX8_draw_72 : decode cX8_draw 72 = .ok (.ineg, 1) := by decide +kernel
theorem dX8_draw_73 : decode cX8_draw 73 = .ok (.istore 5, 2) := by decide +kernel
theorem dX8_draw_75 : decode cX8_draw 75 = .ok (.iinc 3 1, 3) := by decide +kernel
theorem dX8_draw_78 : decode cX8_draw 78 = .ok (.aload_n 0, 1) := by decide +kernel
theorem dX8_draw_79 : decode cX8_draw 79 = .ok (.getfield 15, 3) := by decide +kernel
theorem dX8_draw_82 : decode cX8_draw 82 = .ok (.iload 4, 2) := by decide +kernel
theorem dX8_draw_84 : decode cX8_draw 84 = .ok (.iload 5, 2) := by decide +kernel
theorem dX8_draw_86 : decode cX8_draw 86 = .ok (.iastore, 1) := by decide +kernel
theorem dX8_draw_87 : decode cX8_draw 87 = .ok (.iinc 4 1, 3) := by decide +kernel
theorem dX8_draw_90 : decode cX8_draw 90 = .ok (.goto (-85), 3) := by decide +kernel
theorem dX8_draw_93 : decode cX8_draw 93 = .ok (.iload_n 3, 1) := by decide +kernel
theorem dX8_draw_94 : decode cX8_draw 94 = .ok (.ireturn, 1) := by decide +kernel
theorem dX8_go_0 : decode cX8_go 0 = .ok (.iconst 0, 1) := by decide +kernel
theorem dX8_go_1 : decode cX8_go 1 = .ok (.istore_n 2, 1) := by decide +kernel
theorem dX8_go_2 : decode cX8_go 2 = .ok (.iconst 0, 1) := by decide +kernel
theorem dX8_go_3 : decode cX8_go 3 = .ok (.istore_n 3, 1) := by decide +kernel
theorem dX8_go_4 : decode cX8_go 4 = .ok (.iload_n 3, 1) := by decide +kernel
theorem dX8_go_5 : decode cX8_go 5 = .ok (.iload_n 1, 1) := by decide +kernel
theorem dX8_go_6 : decode cX8_go 6 = .ok (.if_icmp .ge 23, 3) := by decide +kernel
theorem dX8_go_9 : decode cX8_go 9 = .ok (.aload_n 0, 1) := by decide +kernel
theorem dX8_go_10 : decode cX8_go 10 = .ok (.getfield 48, 3) := by decide +kernel
theorem dX8_go_13 : decode cX8_go 13 = .ok (.ifCond .ne 16, 3) := by decide +kernel
theorem dX8_go_16 : decode cX8_go 16 = .ok (.aload_n 0, 1) := by decide +kernel
theorem dX8_go_17 : decode cX8_go 17 = .ok (.invokevirtual 97, 3) := by decide +kernel
theorem dX8_go_20 : decode cX8_go 20 = .ok (.iinc 2 1, 3) := by decide +kernel
theorem dX8_go_23 : decode cX8_go 23 = .ok (.iinc 3 1, 3) := by decide +kernel
theorem dX8_go_26 : decode cX8_go 26 = .ok (.goto (-22), 3) := by decide +kernel
theorem dX8_go_29 : decode cX8_go 29 = .ok (.iload_n 2, 1) := by decide +kernel
theorem dX8_go_30 : decode cX8_go 30 = .ok (.ireturn, 1) := by decide +kernel
theorem dX8_advance_0 : decode cX8_advance 0 = .ok (.iconst (-1), 1) := by decide +kernel
theorem dX8_advance_1 : decode cX8_advance 1 = .ok (.istore_n 1, 1) := by decide +kernel
theorem dX8_advance_2 : decode cX8_advance 2 = .ok (.aload_n 0, 1) := by decide +kernel
theorem dX8_advance_3 : decode cX8_advance 3 = .ok (.getfield 45, 3) := by decide +kernel
theorem dX8_advance_6 : decode cX8_advance 6 = .ok (.ifCond .ne 60, 3) := by decide +kernel
theorem dX8_advance_9 : decode cX8_advance 9 = .ok (.aload_n 0, 1) := by decide +kernel
theorem dX8_advance_10 : decode cX8_advance 10 = .ok (.getfield 31, 3) := by decide +kernel
theorem dX8_advance_13 : decode cX8_advance 13 = .ok (.aload_n 0, 1) := by decide +kernel
theorem dX8_advance_14 : decode cX8_advance 14 = .ok (.getfield 54, 3) := by decide +kernel
theorem dX8_advance_17 : decode cX8_advance 17 = .ok (.iaload, 1) := by decide +kernel
theorem dX8_advance_18 : decode cX8_advance 18 = .ok (.istore_n 1, 1) := by decide +kernel
theorem dX8_advance_19 : decode cX8_advance 19 = .ok (.aload_n 0, 1) := by decide +kernel
theorem dX8_advance_20 : decode cX8_advance 20 = .ok (.iload_n 1, 1) := by decide +kernel
theorem dX8_advance_21 : decode cX8_advance 21 = .ok (.invokevirtual 100, 3) := by decide +kernel
theorem dX8_advance_24 : decode cX8_advance 24 = .ok (.aload_n 0, 1) := by decide +kernel
theorem dX8_advance_25 : decode cX8_advance 25 = .ok (.dup, 1) := by decide +kernel
theorem dX8_advance_26 : decode cX8_advance 26 = .ok (.getfield 54, 3) := by decide +kernel
theorem dX8_advance_29 : decode cX8_advance 29 = .ok (.iconst 1, 1) := by decide +kernel
theorem dX8_advance_30 : decode cX8_advance 30 = .ok (.iadd, 1) := by decide +kernel
theorem dX8_advance_31 : decode cX8_advance 31 = .ok (.putfield 54, 3) := by decide +kernel
theorem dX8_advance_34 : decode cX8_advance 34 = .ok (.aload_n 0, 1) := by decide +kernel
theorem dX8_advance_35 : decode cX8_advance 35 = .ok (.getfield 54, 3) := by decide +kernel
theorem dX8_advance_38 : decode cX8_advance 38 = .ok (.aload_n 0, 1) := by decide +kernel
theorem dX8_advance_39 : decode cX8_advance 39 = .ok (.getfield 37, 3) := by decide +kernel
theorem dX8_advance_42 : decode cX8_advance 42 = .ok (.getfield 78, 3) := by decide +kernel
theorem dX8_advance_45 : decode cX8_advance 45 = .ok (.if_icmp .lt 35, 3) := by decide +kernel
theorem dX8_advance_48 : decode cX8_advance 48 = .ok (.aload_n 0, 1) := by decide +kernel
theorem dX8_advance_49 : decode cX8_advance 49 = .ok (.iconst 0, 1) := by decide +kernel
theorem dX8_advance_50 : decode cX8_advance 50 = .ok (.putfield 54, 3) := by decide +kernel
theorem dX8_advance_53 : decode cX8_advance 53 = .ok (.aload_n 0, 1) := by decide +kernel
theorem dX8_advance_54 : decode cX8_advance 54 = .ok (.dup, 1) := by decide +kernel
theorem dX8_advance_55 : decode cX8_advance 55 = .ok (.getfield 51, 3) := by decide +kernel
theorem dX8_advance_58 : decode cX8_advance 58 = .ok (.iconst 1, 1) := by decide +kernel
theorem dX8_advance_59 : decode cX8_advance 59 = .ok (.iadd, 1) := by decide +kernel
theorem dX8_advance_60 : decode cX8_advance 60 = .ok (.putfield 51, 3) := by decide +kernel
theorem dX8_advance_63 : decode cX8_advance 63 = .ok (.goto 17, 3) := by decide +kernel
theorem dX8_advance_66 : decode cX8_advance 66 = .ok (.aload_n 0, 1) := by decide +kernel
theorem dX8_advance_67 : decode cX8_advance 67 = .ok (.invokevirtual 103, 3) := by decide +kernel
theorem dX8_advance_70 : decode cX8_advance 70 = .ok (.aload_n 0, 1) := by decide +kernel
theorem dX8_advance_71 : decode cX8_advance 71 = .ok (.dup, 1) := by decide +kernel
theorem dX8_advance_72 : decode cX8_advance 72 = .ok (.getfield 51, 3) := by decide +kernel
theorem dX8_advance_75 : decode cX8_advance 75 = .ok (.iconst 1, 1) := by decide +kernel
theorem dX8_advance_76 : decode cX8_advance 76 = .ok (.iadd, 1) := by decide +kernel
theorem dX8_advance_77 : decode cX8_advance 77 = .ok (.putfield 51, 3) := by decide +kernel
theorem dX8_advance_80 : decode cX8_advance 80 = .ok (.aload_n 0, 1) := by decide +kernel
theorem dX8_advance_81 : decode cX8_advance 81 = .ok (.getfield 60, 3) := by decide +kernel
theorem dX8_advance_84 : decode cX8_advance 84 = .ok (.lstore_n 2, 1) := by decide +kernel
theorem dX8_advance_85 : decode cX8_advance 85 = .ok (.aload_n 0, 1) := by decide +kernel
theorem dX8_advance_86 : decode cX8_advance 86 = .ok (.invokevirtual 91, 3) := by decide +kernel
theorem dX8_advance_89 : decode cX8_advance 89 = .ok (.aload_n 0, 1) := by decide +kernel
theorem dX8_advance_90 : decode cX8_advance 90 = .ok (.iload_n 1, 1) := by decide +kernel
theorem dX8_advance_91 : decode cX8_advance 91 = .ok (.aload_n 0, 1) := by decide +kernel
theorem dX8_advance_92 : decode cX8_advance 92 = .ok (.getfield 60, 3) := by decide +kernel
theorem dX8_advance_95 : decode cX8_advance 95 = .ok (.lload_n 2, 1) := by decide +kernel
theorem dX8_advance_96 : decode cX8_advance 96 = .ok (.lxor, 1) := by decide +kernel
theorem dX8_advance_97 : decode cX8_advance 97 = .ok (.invokevirtual 106, 3) := by decide +kernel
theorem dX8_advance_100 : decode cX8_advance 100 = .ok (.aload_n 0, 1) := by decide +kernel
theorem dX8_advance_101 : decode cX8_advance 101 = .ok (.getfield 63, 3) := by decide +kernel
theorem dX8_advance_104 : decode cX8_advance 104 = .ok (.ifCond .ne 11, 3) := by decide +kernel
theorem dX8_advance_107 : decode cX8_advance 107 = .ok (.aload_n 0, 1) := by decide +kernel
theorem dX8_advance_108 : decode cX8_advance 108 = .ok (.iconst 1, 1) := by decide +kernel
theorem dX8_advance_109 : decode cX8_advance 109 = .ok (.putfield 48, 3) := by decide +kernel
theorem dX8_advance_112 : decode cX8_advance 112 = .ok (.goto 17, 3) := by decide +kernel
theorem dX8_advance_115 : decode cX8_advance 115 = .ok (.aload_n 0, 1) := by decide +kernel
theorem dX8_advance_116 : decode cX8_advance 116 = .ok (.getfield 51, 3) := by decide +kernel
theorem dX8_advance_119 : decode cX8_advance 119 = .ok (.bipush 20, 2) := by decide +kernel
theorem dX8_advance_121 : decode cX8_advance 121 = .ok (.if_icmp .lt 8, 3) := by decide +kernel
theorem dX8_advance_124 : decode cX8_advance 124 = .ok (.aload_n 0, 1) := by decide +kernel
theorem dX8_advance_125 : decode cX8_advance 125 = .ok (.iconst 2, 1) := by decide +kernel
theorem dX8_advance_126 : decode cX8_advance 126 = .ok (.putfield 48, 3) := by decide +kernel
theorem dX8_advance_129 : decode cX8_advance 129 = .ok (.return_, 1) := by decide +kernel
theorem dX8_look_0 : decode cX8_look 0 = .ok (.aload_n 0, 1) := by decide +kernel
theorem dX8_look_1 : decode cX8_look 1 = .ok (.lconst 0, 1) := by decide +kernel
theorem dX8_look_2 : decode cX8_look 2 = .ok (.putfield 60, 3) := by decide +kernel
theorem dX8_look_5 : decode cX8_look 5 = .ok (.iconst 0, 1) := by decide +kernel
theorem dX8_look_6 : decode cX8_look 6 = .ok (.istore_n 1, 1) := by decide +kernel
theorem dX8_look_7 : decode cX8_look 7 = .ok (.iload_n 1, 1) := by decide +kernel
theorem dX8_look_8 : decode cX8_look 8 = .ok (.aload_n 0, 1) := by decide +kernel
theorem dX8_look_9 : decode cX8_look 9 = .ok (.getfield 37, 3) := by decide +kernel
theorem dX8_look_12 : decode cX8_look 12 = .ok (.getfield 94, 3) := by decide +kernel
theorem dX8_look_15 : decode cX8_look 15 = .ok (.if_icmp .ge 30, 3) := by decide +kernel
theorem dX8_look_18 : decode cX8_look 18 = .ok (.aload_n 0, 1) := by decide +kernel
theorem dX8_look_19 : decode cX8_look 19 = .ok (.getfield 19, 3) := by decide +kernel
theorem dX8_look_22 : decode cX8_look 22 = .ok (.iload_n 1, 1) := by decide +kernel
theorem dX8_look_23 : decode cX8_look 23 = .ok (.iaload, 1) := by decide +kernel
theorem dX8_look_24 : decode cX8_look 24 = .ok (.ifCond .ge 15, 3) := by decide +kernel
theorem dX8_look_27 : decode cX8_look 27 = .ok (.aload_n 0, 1) := by decide +kernel
theorem dX8_look_28 : decode cX8_look 28 = .ok (.dup, 1) := by decide +kernel
theorem dX8_look_29 : decode cX8_look 29 = .ok (.getfield 60, 3) := by decide +kernel
theorem dX8_look_32 : decode cX8_look 32 = .ok (.lconst 1, 1) := by decide +kernel
theorem dX8_look_33 : decode cX8_look 33 = .ok (.iload_n 1, 1) := by decide +kernel
theorem dX8_look_34 : decode cX8_look 34 = .ok (.lshl, 1) := by decide +kernel
theorem dX8_look_35 : decode cX8_look 35 = .ok (.lor, 1) := by decide +kernel
theorem dX8_look_36 : decode cX8_look 36 = .ok (.putfield 60, 3) := by decide +kernel
theorem dX8_look_39 : decode cX8_look 39 = .ok (.iinc 1 1, 3) := by decide +kernel
theorem dX8_look_42 : decode cX8_look 42 = .ok (.goto (-35), 3) := by decide +kernel
theorem dX8_look_45 : decode cX8_look 45 = .ok (.aload_n 0, 1) := by decide +kernel
theorem dX8_look_46 : decode cX8_look 46 = .ok (.aload_n 0, 1) := by decide +kernel
theorem dX8_look_47 : decode cX8_look 47 = .ok (.getfield 37, 3) := by decide +kernel
theorem dX8_look_50 : decode cX8_look 50 = .ok (.aload_n 0, 1) := by decide +kernel
theorem dX8_look_51 : decode cX8_look 51 = .ok (.getfield 60, 3) := by decide +kernel
theorem dX8_look_54 : decode cX8_look 54 = .ok (.invokevirtual 110, 3) := by decide +kernel
theorem dX8_look_57 : decode cX8_look 57 = .ok (.putfield 63, 3) := by decide +kernel
theorem dX8_look_60 : decode cX8_look 60 = .ok (.return_, 1) := by decide +kernel
theorem dX8_note_0 : decode cX8_note 0 = .ok (.lload_n 2, 1) := by decide +kernel
theorem dX8_note_1 : decode cX8_note 1 = .ok (.invokestatic 114, 3) := by decide +kernel
theorem dX8_note_4 : decode cX8_note 4 = .ok (.istore 4, 2) := by decide +kernel
theorem dX8_note_6 : decode cX8_note 6 = .ok (.lload_n 2, 1) := by decide +kernel
theorem dX8_note_7 : decode cX8_note 7 = .ok (.lstore 5, 2) := by decide +kernel
theorem dX8_note_9 : decode cX8_note 9 = .ok (.iconst 0, 1) := by decide +kernel
theorem dX8_note_10 : decode cX8_note 10 = .ok (.istore 7, 2) := by decide +kernel
theorem dX8_note_12 : decode cX8_note 12 = .ok (.iload 7, 2) := by decide +kernel
theorem dX8_note_14 : decode cX8_note 14 = .ok (.iload 4, 2) := by decide +kernel
theorem dX8_note_16 : decode cX8_note 16 = .ok (.if_icmp .ge 32, 3) := by decide +kernel
theorem dX8_note_19 : decode cX8_note 19 = .ok (.aload_n 0, 1) := by decide +kernel
theorem dX8_note_20 : decode cX8_note 20 = .ok (.getfield 22, 3) := by decide +kernel
theorem dX8_note_23 : decode cX8_note 23 = .ok (.lload 5, 2) := by decide +kernel
theorem dX8_note_25 : decode cX8_note 25 = .ok (.invokestatic 119, 3) := by decide +kernel
theorem dX8_note_28 : decode cX8_note 28 = .ok (.dup2, 1) := by decide +kernel
theorem dX8_note_29 : decode cX8_note 29 = .ok (.iaload, 1) := by decide +kernel
theorem dX8_note_30 : decode cX8_note 30 = .ok (.iconst 1, 1) := by decide +kernel
theorem dX8_note_31 : decode cX8_note 31 = .ok (.iadd, 1) := by decide +kernel
theorem dX8_note_32 : decode cX8_note 32 = .ok (.iastore, 1) := by decide +kernel
theorem dX8_note_33 : decode cX8_note 33 = .ok (.lload 5, 2) := by decide +kernel
theorem dX8_note_35 : decode cX8_note 35 = .ok (.lload 5, 2) := by decide +kernel
theorem dX8_note_37 : decode cX8_note 37 = .ok (.lconst 1, 1) := by decide +kernel
theorem dX8_note_38 : decode cX8_note 38 = .ok (.lsub, 1) := by decide +kernel
theorem dX8_note_39 : decode cX8_note 39 = .ok (.land, 1) := by decide +kernel
theorem dX8_note_40 : decode cX8_note 40 = .ok (.lstore 5, 2) := by decide +kernel
theorem dX8_note_42 : decode cX8_note 42 = .ok (.iinc 7 1, 3) := by decide +kernel
theorem dX8_note_45 : decode cX8_note 45 = .ok (.goto (-33), 3) := by decide +kernel
theorem dX8_note_48 : decode cX8_note 48 = .ok (.aload_n 0, 1) := by decide +kernel
theorem dX8_note_49 : decode cX8_note 49 = .ok (.getfield 57, 3) := by decide +kernel
theorem dX8_note_52 : decode cX8_note 52 = .ok (.bipush 16, 2) := by decide +kernel
theorem dX8_note_54 : decode cX8_note 54 = .ok (.irem, 1) := by decide +kernel
theorem dX8_note_55 : decode cX8_note 55 = .ok (.iconst 3, 1) := by decide +kernel
theorem dX8_note_56 : decode cX8_note 56 = .ok (.imul, 1) := by decide +kernel
theorem dX8_note_57 : decode cX8_note 57 = .ok (.istore 7, 2) := by decide +kernel
theorem dX8_note_59 : decode cX8_note 59 = .ok (.aload_n 0, 1) := by decide +kernel
theorem dX8_note_60 : decode cX8_note 60 = .ok (.getfield 28, 3) := by decide +kernel
theorem dX8_note_63 : decode cX8_note 63 = .ok (.iload 7, 2) := by decide +kernel
theorem dX8_note_65 : decode cX8_note 65 = .ok (.iload_n 1, 1) := by decide +kernel
theorem dX8_note_66 : decode cX8_note 66 = .ok (.iastore, 1) := by decide +kernel
theorem dX8_note_67 : decode cX8_note 67 = .ok (.aload_n 0, 1) := by decide +kernel
theorem dX8_note_68 : decode cX8_note 68 = .ok (.getfield 28, 3) := by decide +kernel
theorem dX8_note_71 : decode cX8_note 71 = .ok (.iload 7, 2) := by decide +kernel
theorem dX8_note_73 : decode cX8_note 73 = .ok (.iconst 1, 1) := by decide +kernel
theorem dX8_note_74 : decode cX8_note 74 = .ok (.iadd, 1) := by decide +kernel
theorem dX8_note_75 : decode cX8_note 75 = .ok (.iload 4, 2) := by decide +kernel
theorem dX8_note_77 : decode cX8_note 77 = .ok (.iastore, 1) := by decide +kernel
theorem dX8_note_78 : decode cX8_note 78 = .ok (.aload_n 0, 1) := by decide +kernel
theorem dX8_note_79 : decode cX8_note 79 = .ok (.getfield 28, 3) := by decide +kernel
theorem dX8_note_82 : decode cX8_note 82 = .ok (.iload 7, 2) := by decide +kernel
theorem dX8_note_84 : decode cX8_note 84 = .ok (.iconst 2, 1) := by decide +kernel
theorem dX8_note_85 : decode cX8_note 85 = .ok (.iadd, 1) := by decide +kernel
theorem dX8_note_86 : decode cX8_note 86 = .ok (.aload_n 0, 1) := by decide +kernel
theorem dX8_note_87 : decode cX8_note 87 = .ok (.getfield 63, 3) := by decide +kernel
theorem dX8_note_90 : decode cX8_note 90 = .ok (.iastore, 1) := by decide +kernel
theorem dX8_note_91 : decode cX8_note 91 = .ok (.aload_n 0, 1) := by decide +kernel
theorem dX8_note_92 : decode cX8_note 92 = .ok (.dup, 1) := by decide +kernel
theorem dX8_note_93 : decode cX8_note 93 = .ok (.getfield 57, 3) := by decide +kernel
theorem dX8_note_96 : decode cX8_note 96 = .ok (.iconst 1, 1) := by decide +kernel
theorem dX8_note_97 : decode cX8_note 97 = .ok (.iadd, 1) := by decide +kernel
theorem dX8_note_98 : decode cX8_note 98 = .ok (.putfield 57, 3) := by decide +kernel
theorem dX8_note_101 : decode cX8_note 101 = .ok (.return_, 1) := by decide +kernel
theorem dX8_mendLayer_0 : decode cX8_mendLayer 0 = .ok (.iconst 0, 1) := by decide +kernel
theorem dX8_mendLayer_1 : decode cX8_mendLayer 1 = .ok (.istore_n 2, 1) := by decide +kernel
theorem dX8_mendLayer_2 : decode cX8_mendLayer 2 = .ok (.iload_n 2, 1) := by decide +kernel
theorem dX8_mendLayer_3 : decode cX8_mendLayer 3 = .ok (.aload_n 0, 1) := by decide +kernel
theorem dX8_mendLayer_4 : decode cX8_mendLayer 4 = .ok (.getfield 37, 3) := by decide +kernel
theorem dX8_mendLayer_7 : decode cX8_mendLayer 7 = .ok (.getfield 122, 3) := by decide +kernel
theorem dX8_mendLayer_10 : decode cX8_mendLayer 10 = .ok (.if_icmp .ge 96, 3) := by decide +kernel
theorem dX8_mendLayer_13 : decode cX8_mendLayer 13 = .ok (.iload_n 1, 1) := by decide +kernel
theorem dX8_mendLayer_14 : decode cX8_mendLayer 14 = .ok (.aload_n 0, 1) := by decide +kernel
theorem dX8_mendLayer_15 : decode cX8_mendLayer 15 = .ok (.getfield 37, 3) := by decide +kernel
theorem dX8_mendLayer_18 : decode cX8_mendLayer 18 = .ok (.getfield 122, 3) := by decide +kernel
theorem dX8_mendLayer_21 : decode cX8_mendLayer 21 = .ok (.imul, 1) := by decide +kernel
theorem dX8_mendLayer_22 : decode cX8_mendLayer 22 = .ok (.iload_n 2, 1) := by decide +kernel
theorem dX8_mendLayer_23 : decode cX8_mendLayer 23 = .ok (.iadd, 1) := by decide +kernel
theorem dX8_mendLayer_24 : decode cX8_mendLayer 24 = .ok (.bipush 8, 2) := by decide +kernel
theorem dX8_mendLayer_26 : decode cX8_mendLayer 26 = .ok (.imul, 1) := by decide +kernel
theorem dX8_mendLayer_27 : decode cX8_mendLayer 27 = .ok (.istore_n 3, 1) := by decide +kernel
theorem dX8_mendLayer_28 : decode cX8_mendLayer 28 = .ok (.aload_n 0, 1) := by decide +kernel
theorem dX8_mendLayer_29 : decode cX8_mendLayer 29 = .ok (.iload_n 3, 1) := by decide +kernel
theorem dX8_mendLayer_30 : decode cX8_mendLayer 30 = .ok (.invokevirtual 125, 3) := by decide +kernel
theorem dX8_mendLayer_33 : decode cX8_mendLayer 33 = .ok (.iconst 0, 1) := by decide +kernel
theorem dX8_mendLayer_34 : decode cX8_mendLayer 34 = .ok (.istore 4, 2) := by decide +kernel
theorem dX8_mendLayer_36 : decode cX8_mendLayer 36 = .ok (.iload 4, 2) := by decide +kernel
theorem dX8_mendLayer_38 : decode cX8_mendLayer 38 = .ok (.aload_n 0, 1) := by decide +kernel
theorem dX8_mendLayer_39 : decode cX8_mendLayer 39 = .ok (.getfield 37, 3) := by decide +kernel
theorem dX8_mendLayer_42 : decode cX8_mendLayer 42 = .ok (.getfield 128, 3) := by decide +kernel
theorem dX8_mendLayer_45 : decode cX8_mendLayer 45 = .ok (.if_icmp .ge 55, 3) := by decide +kernel
theorem dX8_mendLayer_48 : decode cX8_mendLayer 48 = .ok (.aload_n 0, 1) := by decide +kernel
theorem dX8_mendLayer_49 : decode cX8_mendLayer 49 = .ok (.getfield 37, 3) := by decide +kernel
theorem dX8_mendLayer_52 : decode cX8_mendLayer 52 = .ok (.getfield 131, 3) := by decide +kernel
theorem dX8_mendLayer_55 : decode cX8_mendLayer 55 = .ok (.iload_n 3, 1) := by decide +kernel
theorem dX8_mendLayer_56 : decode cX8_mendLayer 56 = .ok (.iload 4, 2) := by decide +kernel
theorem dX8_mendLayer_58 : decode cX8_mendLayer 58 = .ok (.iadd, 1) := by decide +kernel
theorem dX8_mendLayer_59 : decode cX8_mendLayer 59 = .ok (.iaload, 1) := by decide +kernel
theorem dX8_mendLayer_60 : decode cX8_mendLayer 60 = .ok (.istore 5, 2) := by decide +kernel
theorem dX8_mendLayer_62 : decode cX8_mendLayer 62 = .ok (.iload 5, 2) := by decide +kernel
theorem dX8_mendLayer_64 : decode cX8_mendLayer 64 = .ok (.ifCond .lt 30, 3) := by decide +kernel
theorem dX8_mendLayer_67 : decode cX8_mendLayer 67 = .ok (.aload_n 0, 1) := by decide +kernel
theorem dX8_mendLayer_68 : decode cX8_mendLayer 68 = .ok (.getfield 19, 3) := by decide +kernel
theorem dX8_mendLayer_71 : decode cX8_mendLayer 71 = .ok (.iload 5, 2) := by decide +kernel
theorem dX8_mendLayer_73 : decode cX8_mendLayer 73 = .ok (.aload_n 0, 1) := by decide +kernel
theorem dX8_mendLayer_74 : decode cX8_mendLayer 74 = .ok (.getfield 34, 3) := by decide +kernel
theorem dX8_mendLayer_77 : decode cX8_mendLayer 77 = .ok (.iload 4, 2) := by decide +kernel
theorem dX8_mendLayer_79 : decode cX8_mendLayer 79 = .ok (.iaload, 1) := by decide +kernel
theorem dX8_mendLayer_80 : decode cX8_mendLayer 80 = .ok (.aload_n 0, 1) := by decide +kernel
theorem dX8_mendLayer_81 : decode cX8_mendLayer 81 = .ok (.getfield 25, 3) := by decide +kernel
theorem dX8_mendLayer_84 : decode cX8_mendLayer 84 = .ok (.iload_n 3, 1) := by decide +kernel
theorem dX8_mendLayer_85 : decode cX8_mendLayer 85 = .ok (.iload 4, 2) := by decide +kernel
theorem dX8_mendLayer_87 : decode cX8_mendLayer 87 = .ok (.iadd, 1) := by decide +kernel
theorem dX8_mendLayer_88 : decode cX8_mendLayer 88 = .ok (.iaload, 1) := by decide +kernel
theorem dX8_mendLayer_89 : decode cX8_mendLayer 89 = .ok (.iadd, 1) := by decide +kernel
theorem dX8_mendLayer_90 : decode cX8_mendLayer 90 = .ok (.invokestatic 134, 3) := by decide +kernel
theorem dX8_mendLayer_93 : decode cX8_mendLayer 93 = .ok (.iastore, 1) := by decide +kernel
theorem dX8_mendLayer_94 : decode cX8_mendLayer 94 = .ok (.iinc 4 1, 3) := by decide +kernel
theorem dX8_mendLayer_97 : decode cX8_mendLayer 97 = .ok (.goto (-61), 3) := by decide +kernel
theorem dX8_mendLayer_100 : decode cX8_mendLayer 100 = .ok (.iinc 2 1, 3) := by decide +kernel
theorem dX8_mendLayer_103 : decode cX8_mendLayer 103 = .ok (.goto (-101), 3) := by decide +kernel
theorem dX8_mendLayer_106 : decode cX8_mendLayer 106 = .ok (.return_, 1) := by decide +kernel
theorem dX8_mendAtOnce_0 : decode cX8_mendAtOnce 0 = .ok (.iconst 0, 1) := by decide +kernel
theorem dX8_mendAtOnce_1 : decode cX8_mendAtOnce 1 = .ok (.istore_n 1, 1) := by decide +kernel
theorem dX8_mendAtOnce_2 : decode cX8_mendAtOnce 2 = .ok (.iload_n 1, 1) := by decide +kernel
theorem dX8_mendAtOnce_3 : decode cX8_mendAtOnce 3 = .ok (.aload_n 0, 1) := by decide +kernel
theorem dX8_mendAtOnce_4 : decode cX8_mendAtOnce 4 = .ok (.getfield 37, 3) := by decide +kernel
theorem dX8_mendAtOnce_7 : decode cX8_mendAtOnce 7 = .ok (.getfield 138, 3) := by decide +kernel
theorem dX8_mendAtOnce_10 : decode cX8_mendAtOnce 10 = .ok (.if_icmp .ge 17, 3) := by decide +kernel
theorem dX8_mendAtOnce_13 : decode cX8_mendAtOnce 13 = .ok (.aload_n 0, 1) := by decide +kernel
theorem dX8_mendAtOnce_14 : decode cX8_mendAtOnce 14 = .ok (.iload_n 1, 1) := by decide +kernel
theorem dX8_mendAtOnce_15 : decode cX8_mendAtOnce 15 = .ok (.bipush 8, 2) := by decide +kernel
theorem dX8_mendAtOnce_17 : decode cX8_mendAtOnce 17 = .ok (.imul, 1) := by decide +kernel
theorem dX8_mendAtOnce_18 : decode cX8_mendAtOnce 18 = .ok (.invokevirtual 125, 3) := by decide +kernel
theorem dX8_mendAtOnce_21 : decode cX8_mendAtOnce 21 = .ok (.iinc 1 1, 3) := by decide +kernel
theorem dX8_mendAtOnce_24 : decode cX8_mendAtOnce 24 = .ok (.goto (-22), 3) := by decide +kernel
theorem dX8_mendAtOnce_27 : decode cX8_mendAtOnce 27 = .ok (.aload_n 0, 1) := by decide +kernel
theorem dX8_mendAtOnce_28 : decode cX8_mendAtOnce 28 = .ok (.getfield 15, 3) := by decide +kernel
theorem dX8_mendAtOnce_31 : decode cX8_mendAtOnce 31 = .ok (.iconst 0, 1) := by decide +kernel
theorem dX8_mendAtOnce_32 : decode cX8_mendAtOnce 32 = .ok (.aload_n 0, 1) := by decide +kernel
theorem dX8_mendAtOnce_33 : decode cX8_mendAtOnce 33 = .ok (.getfield 19, 3) := by decide +kernel
theorem dX8_mendAtOnce_36 : decode cX8_mendAtOnce 36 = .ok (.iconst 0, 1) := by decide +kernel
theorem dX8_mendAtOnce_37 : decode cX8_mendAtOnce 37 = .ok (.bipush 48, 2) := by decide +kernel
theorem dX8_mendAtOnce_39 : decode cX8_mendAtOnce 39 = .ok (.invokestatic 66, 3) := by decide +kernel
theorem dX8_mendAtOnce_42 : decode cX8_mendAtOnce 42 = .ok (.iconst 0, 1) := by decide +kernel
theorem dX8_mendAtOnce_43 : decode cX8_mendAtOnce 43 = .ok (.istore_n 1, 1) := by decide +kernel
theorem dX8_mendAtOnce_44 : decode cX8_mendAtOnce 44 = .ok (.iload_n 1, 1) := by decide +kernel
theorem dX8_mendAtOnce_45 : decode cX8_mendAtOnce 45 = .ok (.aload_n 0, 1) := by decide +kernel
theorem dX8_mendAtOnce_46 : decode cX8_mendAtOnce 46 = .ok (.getfield 37, 3) := by decide +kernel
theorem dX8_mendAtOnce_49 : decode cX8_mendAtOnce 49 = .ok (.getfield 138, 3) := by decide +kernel
theorem dX8_mendAtOnce_52 : decode cX8_mendAtOnce 52 = .ok (.if_icmp .ge 67, 3) := by decide +kernel
theorem dX8_mendAtOnce_55 : decode cX8_mendAtOnce 55 = .ok (.iconst 0, 1) := by decide +kernel
theorem dX8_mendAtOnce_56 : decode cX8_mendAtOnce 56 = .ok (.istore_n 2, 1) := by decide +kernel
theorem dX8_mendAtOnce_57 : decode cX8_mendAtOnce 57 = .ok (.iload_n 2, 1) := by decide +kernel
theorem dX8_mendAtOnce_58 : decode cX8_mendAtOnce 58 = .ok (.aload_n 0, 1) := by decide +kernel
theorem dX8_mendAtOnce_59 : decode cX8_mendAtOnce 59 = .ok (.getfield 37, 3) := by decide +kernel
theorem dX8_mendAtOnce_62 : decode cX8_mendAtOnce 62 = .ok (.getfield 128, 3) := by decide +kernel
theorem dX8_mendAtOnce_65 : decode cX8_mendAtOnce 65 = .ok (.if_icmp .ge 48, 3) := by decide +kernel
theorem dX8_mendAtOnce_68 : decode cX8_mendAtOnce 68 = .ok (.aload_n 0, 1) := by decide +kernel
theorem dX8_mendAtOnce_69 : decode cX8_mendAtOnce 69 = .ok (.getfield 37, 3) := by decide +kernel
theorem dX8_mendAtOnce_72 : decode cX8_mendAtOnce 72 = .ok (.getfield 131, 3) := by decide +kernel
theorem dX8_mendAtOnce_75 : decode cX8_mendAtOnce 75 = .ok (.iload_n 1, 1) := by decide +kernel
theorem dX8_mendAtOnce_76 : decode cX8_mendAtOnce 76 = .ok (.bipush 8, 2) := by decide +kernel
theorem dX8_mendAtOnce_78 : decode cX8_mendAtOnce 78 = .ok (.imul, 1) := by decide +kernel
theorem dX8_mendAtOnce_79 : decode cX8_mendAtOnce 79 = .ok (.iload_n 2, 1) := by decide +kernel
theorem dX8_mendAtOnce_80 : decode cX8_mendAtOnce 80 = .ok (.iadd, 1) := by decide +kernel
theorem dX8_mendAtOnce_81 : decode cX8_mendAtOnce 81 = .ok (.iaload, 1) := by decide +kernel
theorem dX8_mendAtOnce_82 : decode cX8_mendAtOnce 82 = .ok (.istore_n 3, 1) := by decide +kernel
theorem dX8_mendAtOnce_83 : decode cX8_mendAtOnce 83 = .ok (.iload_n 3, 1) := by decide +kernel
theorem dX8_mendAtOnce_84 : decode cX8_mendAtOnce 84 = .ok (.ifCond .lt 23, 3) := by decide +kernel
theorem dX8_mendAtOnce_87 : decode cX8_mendAtOnce 87 = .ok (.aload_n 0, 1) := by decide +kernel
theorem dX8_mendAtOnce_88 : decode cX8_mendAtOnce 88 = .ok (.getfield 19, 3) := by decide +kernel
theorem dX8_mendAtOnce_91 : decode cX8_mendAtOnce 91 = .ok (.iload_n 3, 1) := by decide +kernel
theorem dX8_mendAtOnce_92 : decode cX8_mendAtOnce 92 = .ok (.dup2, 1) := by decide +kernel
theorem dX8_mendAtOnce_93 : decode cX8_mendAtOnce 93 = .ok (.iaload, 1) := by decide +kernel
theorem dX8_mendAtOnce_94 : decode cX8_mendAtOnce 94 = .ok (.aload_n 0, 1) := by decide +kernel
theorem dX8_mendAtOnce_95 : decode cX8_mendAtOnce 95 = .ok (.getfield 25, 3) := by decide +kernel
theorem dX8_mendAtOnce_98 : decode cX8_mendAtOnce 98 = .ok (.iload_n 1, 1) := by decide +kernel
theorem dX8_mendAtOnce_99 : decode cX8_mendAtOnce 99 = .ok (.bipush 8, 2) := by decide +kernel
theorem dX8_mendAtOnce_101 : decode cX8_mendAtOnce 101 = .ok (.imul, 1) := by decide +kernel
theorem dX8_mendAtOnce_102 : decode cX8_mendAtOnce 102 = .ok (.iload_n 2, 1) := by decide +kernel
theorem dX8_mendAtOnce_103 : decode cX8_mendAtOnce 103 = .ok (.iadd, 1) := by decide +kernel
theorem dX8_mendAtOnce_104 : decode cX8_mendAtOnce 104 = .ok (.iaload, 1) := by decide +kernel
theorem dX8_mendAtOnce_105 : decode cX8_mendAtOnce 105 = .ok (.iadd, 1) := by decide +kernel
theorem dX8_mendAtOnce_106 : decode cX8_mendAtOnce 106 = .ok (.iastore, 1) := by decide +kernel
theorem dX8_mendAtOnce_107 : decode cX8_mendAtOnce 107 = .ok (.iinc 2 1, 3) := by decide +kernel
theorem dX8_mendAtOnce_110 : decode cX8_mendAtOnce 110 = .ok (.goto (-53), 3) := by decide +kernel
theorem dX8_mendAtOnce_113 : decode cX8_mendAtOnce 113 = .ok (.iinc 1 1, 3) := by decide +kernel
theorem dX8_mendAtOnce_116 : decode cX8_mendAtOnce 116 = .ok (.goto (-72), 3) := by decide +kernel
theorem dX8_mendAtOnce_119 : decode cX8_mendAtOnce 119 = .ok (.iconst 0, 1) := by decide +kernel
theorem dX8_mendAtOnce_120 : decode cX8_mendAtOnce 120 = .ok (.istore_n 1, 1) := by decide +kernel
theorem dX8_mendAtOnce_121 : decode cX8_mendAtOnce 121 = .ok (.iload_n 1, 1) := by decide +kernel
theorem dX8_mendAtOnce_122 : decode cX8_mendAtOnce 122 = .ok (.aload_n 0, 1) := by decide +kernel
theorem dX8_mendAtOnce_123 : decode cX8_mendAtOnce 123 = .ok (.getfield 37, 3) := by decide +kernel
theorem dX8_mendAtOnce_126 : decode cX8_mendAtOnce 126 = .ok (.getfield 94, 3) := by decide +kernel
theorem dX8_mendAtOnce_129 : decode cX8_mendAtOnce 129 = .ok (.if_icmp .ge 24, 3) := by decide +kernel
theorem dX8_mendAtOnce_132 : decode cX8_mendAtOnce 132 = .ok (.aload_n 0, 1) := by decide +kernel
theorem dX8_mendAtOnce_133 : decode cX8_mendAtOnce 133 = .ok (.getfield 19, 3) := by decide +kernel
theorem dX8_mendAtOnce_136 : decode cX8_mendAtOnce 136 = .ok (.iload_n 1, 1) := by decide +kernel
theorem dX8_mendAtOnce_137 : decode cX8_mendAtOnce 137 = .ok (.aload_n 0, 1) := by decide +kernel
theorem dX8_mendAtOnce_138 : decode cX8_mendAtOnce 138 = .ok (.getfield 19, 3) := by decide +kernel
theorem dX8_mendAtOnce_141 : decode cX8_mendAtOnce 141 = .ok (.iload_n 1, 1) := by decide +kernel
theorem dX8_mendAtOnce_142 : decode cX8_mendAtOnce 142 = .ok (.iaload, 1) := by decide +kernel
theorem dX8_mendAtOnce_143 : decode cX8_mendAtOnce 143 = .ok (.invokestatic 134, 3) := by decide +kernel
theorem dX8_mendAtOnce_146 : decode cX8_mendAtOnce 146 = .ok (.iastore, 1) := by decide +kernel
theorem dX8_mendAtOnce_147 : decode cX8_mendAtOnce 147 = .ok (.iinc 1 1, 3) := by decide +kernel
theorem dX8_mendAtOnce_150 : decode cX8_mendAtOnce 150 = .ok (.goto (-29), 3) := by decide +kernel
theorem dX8_mendAtOnce_153 : decode cX8_mendAtOnce 153 = .ok (.return_, 1) := by decide +kernel
theorem dX8_mendMessages_0 : decode cX8_mendMessages 0 = .ok (.sipush 1000, 3) := by decide +kernel
theorem dX8_mendMessages_3 : decode cX8_mendMessages 3 = .ok (.istore_n 2, 1) := by decide +kernel
theorem dX8_mendMessages_4 : decode cX8_mendMessages 4 = .ok (.sipush 1000, 3) := by decide +kernel
theorem dX8_mendMessages_7 : decode cX8_mendMessages 7 = .ok (.istore_n 3, 1) := by decide +kernel
theorem dX8_mendMessages_8 : decode cX8_mendMessages 8 = .ok (.iconst (-1), 1) := by decide +kernel
theorem dX8_mendMessages_9 : decode cX8_mendMessages 9 = .ok (.istore 4, 2) := by decide +kernel
theorem dX8_mendMessages_11 : decode cX8_mendMessages 11 = .ok (.iconst 0, 1) := by decide +kernel
theorem dX8_mendMessages_12 : decode cX8_mendMessages 12 = .ok (.istore 5, 2) := by decide +kernel
theorem dX8_mendMessages_14 : decode cX8_mendMessages 14 = .ok (.iconst 0, 1) := by decide +kernel
theorem dX8_mendMessages_15 : decode cX8_mendMessages 15 = .ok (.istore 6, 2) := by decide +kernel
theorem dX8_mendMessages_17 : decode cX8_mendMessages 17 = .ok (.iload 6, 2) := by decide +kernel
theorem dX8_mendMessages_19 : decode cX8_mendMessages 19 = .ok (.aload_n 0, 1) := by decide +kernel
theorem dX8_mendMessages_20 : decode cX8_mendMessages 20 = .ok (.getfield 37, 3) := by decide +kernel
theorem dX8_mendMessages_23 : decode cX8_mendMessages 23 = .ok (.getfield 128, 3) := by decide +kernel
theorem dX8_mendMessages_26 : decode cX8_mendMessages 26 = .ok (.if_icmp .ge 111, 3) := by decide +kernel
theorem dX8_mendMessages_29 : decode cX8_mendMessages 29 = .ok (.aload_n 0, 1) := by decide +kernel
theorem dX8_mendMessages_30 : decode cX8_mendMessages 30 = .ok (.getfield 37, 3) := by decide +kernel
theorem dX8_mendMessages_33 : decode cX8_mendMessages 33 = .ok (.getfield 131, 3) := by decide +kernel
theorem dX8_mendMessages_36 : decode cX8_mendMessages 36 = .ok (.iload_n 1, 1) := by decide +kernel
theorem dX8_mendMessages_37 : decode cX8_mendMessages 37 = .ok (.iload 6, 2) := by decide +kernel
theorem dX8_mendMessages_39 : decode cX8_mendMessages 39 = .ok (.iadd, 1) := by decide +kernel
theorem dX8_mendMessages_40 : decode cX8_mendMessages 40 = .ok (.iaload, 1) := by decide +kernel
theorem dX8_mendMessages_41 : decode cX8_mendMessages 41 = .ok (.istore 7, 2) := by decide +kernel
theorem dX8_mendMessages_43 : decode cX8_mendMessages 43 = .ok (.iload 7, 2) := by decide +kernel
theorem dX8_mendMessages_45 : decode cX8_mendMessages 45 = .ok (.ifCond .ge 6, 3) := by decide +kernel
theorem dX8_mendMessages_48 : decode cX8_mendMessages 48 = .ok (.goto 83, 3) := by decide +kernel
theorem dX8_mendMessages_51 : decode cX8_mendMessages 51 = .ok (.aload_n 0, 1) := by decide +kernel
theorem dX8_mendMessages_52 : decode cX8_mendMessages 52 = .ok (.getfield 19, 3) := by decide +kernel
theorem dX8_mendMessages_55 : decode cX8_mendMessages 55 = .ok (.iload 7, 2) := by decide +kernel
theorem dX8_mendMessages_57 : decode cX8_mendMessages 57 = .ok (.iaload, 1) := by decide +kernel
theorem dX8_mendMessages_58 : decode cX8_mendMessages 58 = .ok (.aload_n 0, 1) := by decide +kernel
theorem dX8_mendMessages_59 : decode cX8_mendMessages 59 = .ok (.getfield 25, 3) := by decide +kernel
theorem dX8_mendMessages_62 : decode cX8_mendMessages 62 = .ok (.iload_n 1, 1) := by decide +kernel
theorem dX8_mendMessages_63 : decode cX8_mendMessages 63 = .ok (.iload 6, 2) := by decide +kernel
theorem dX8_mendMessages_65 : decode cX8_mendMessages 65 = .ok (.iadd, 1) := by decide +kernel
theorem dX8_mendMessages_66 : decode cX8_mendMessages 66 = .ok (.iaload, 1) := by decide +kernel
theorem dX8_mendMessages_67 : decode cX8_mendMessages 67 = .ok (.isub, 1) := by decide +kernel
theorem dX8_mendMessages_68 : decode cX8_mendMessages 68 = .ok (.istore 8, 2) := by decide +kernel
theorem dX8_mendMessages_70 : decode cX8_mendMessages 70 = .ok (.aload_n 0, 1) := by decide +kernel
theorem dX8_mendMessages_71 : decode cX8_mendMessages 71 = .ok (.getfield 34, 3) := by decide +kernel
theorem dX8_mendMessages_74 : decode cX8_mendMessages 74 = .ok (.iload 6, 2) := by decide +kernel
theorem dX8_mendMessages_76 : decode cX8_mendMessages 76 = .ok (.iload 8, 2) := by decide +kernel
theorem dX8_mendMessages_78 : decode cX8_mendMessages 78 = .ok (.iastore, 1) := by decide +kernel
theorem dX8_mendMessages_79 : decode cX8_mendMessages 79 = .ok (.iload 5, 2) := by decide +kernel
theorem dX8_mendMessages_81 : decode cX8_mendMessages 81 = .ok (.iload 8, 2) := by decide +kernel
theorem dX8_mendMessages_83 : decode cX8_mendMessages 83 = .ok (.bipush 31, 2) := by decide +kernel
theorem dX8_mendMessages_85 : decode cX8_mendMessages 85 = .ok (.iushr, 1) := by decide +kernel
theorem dX8_mendMessages_86 : decode cX8_mendMessages 86 = .ok (.ixor, 1) := by decide +kernel
theorem dX8_mendMessages_87 : decode cX8_mendMessages 87 = .ok (.istore 5, 2) := by decide +kernel
theorem dX8_mendMessages_89 : decode cX8_mendMessages 89 = .ok (.iload 8, 2) := by decide +kernel
theorem dX8_mendMessages_91 : decode cX8_mendMessages 91 = .ok (.ifCond .ge 9, 3) := by decide +kernel
theorem dX8_mendMessages_94 : decode cX8_mendMessages 94 = .ok (.iload 8, 2) := by decide +kernel
theorem dX8_mendMessages_96 : decode cX8_mendMessages 96 = .ok (.ineg, 1) := by decide +kernel
theorem dX8_mendMessages_97 : decode cX8_mendMessages 97 = .ok (.goto 5, 3) := by decide +kernel
theorem dX8_mendMessages_100 : decode cX8_mendMessages 100 = .ok (.iload 8, 2) := by decide +kernel
theorem dX8_mendMessages_102 : decode cX8_mendMessages 102 = .ok (.istore 9, 2) := by decide +kernel
theorem dX8_mendMessages_104 : decode cX8_mendMessages 104 = .ok (.iload 9, 2) := by decide +kernel
theorem dX8_mendMessages_106 : decode cX8_mendMessages 106 = .ok (.iload_n 2, 1) := by decide +kernel
theorem dX8_mendMessages_107 : decode cX8_mendMessages 107 = .ok (.if_icmp .ge 15, 3) := by decide +kernel
theorem dX8_mendMessages_110 : decode cX8_mendMessages 110 = .ok (.iload_n 2, 1) := by decide +kernel
theorem dX8_mendMessages_111 : decode cX8_mendMessages 111 = .ok (.istore_n 3, 1) := by decide +kernel
theorem dX8_mendMessages_112 : decode cX8_mendMessages 112 = .ok (.iload 9, 2) := by decide +kernel
theorem dX8_mendMessages_114 : decode cX8_mendMessages 114 = .ok (.istore_n 2, 1) := by decide +kernel
theorem dX8_mendMessages_115 : decode cX8_mendMessages 115 = .ok (.iload 6, 2) := by decide +kernel
theorem dX8_mendMessages_117 : decode cX8_mendMessages 117 = .ok (.istore 4, 2) := by decide +kernel
theorem dX8_mendMessages_119 : decode cX8_mendMessages 119 = .ok (.goto 12, 3) := by decide +kernel
theorem dX8_mendMessages_122 : decode cX8_mendMessages 122 = .ok (.iload 9, 2) := by decide +kernel
theorem dX8_mendMessages_124 : decode cX8_mendMessages 124 = .ok (.iload_n 3, 1) := by decide +kernel
theorem dX8_mendMessages_125 : decode cX8_mendMessages 125 = .ok (.if_icmp .ge 6, 3) := by decide +kernel
theorem dX8_mendMessages_128 : decode cX8_mendMessages 128 = .ok (.iload 9, 2) := by decide +kernel
theorem dX8_mendMessages_130 : decode cX8_mendMessages 130 = .ok (.istore_n 3, 1) := by decide +kernel
theorem dX8_mendMessages_131 : decode cX8_mendMessages 131 = .ok (.iinc 6 1, 3) := by decide +kernel
theorem dX8_mendMessages_134 : decode cX8_mendMessages 134 = .ok (.goto (-117), 3) := by decide +kernel
theorem dX8_mendMessages_137 : decode cX8_mendMessages 137 = .ok (.aload_n 0, 1) := by decide +kernel
theorem dX8_mendMessages_138 : decode cX8_mendMessages 138 = .ok (.iload_n 2, 1) := by decide +kernel
theorem dX8_mendMessages_139 : decode cX8_mendMessages 139 = .ok (.invokevirtual 141, 3) := by decide +kernel
theorem dX8_mendMessages_142 : decode cX8_mendMessages 142 = .ok (.istore 6, 2) := by decide +kernel
theorem dX8_mendMessages_144 : decode cX8_mendMessages 144 = .ok (.iconst 0, 1) := by decide +kernel
theorem dX8_mendMessages_145 : decode cX8_mendMessages 145 = .ok (.istore 7, 2) := by decide +kernel
theorem dX8_mendMessages_147 : decode cX8_mendMessages 147 = .ok (.iload 7, 2) := by decide +kernel
theorem dX8_mendMessages_149 : decode cX8_mendMessages 149 = .ok (.aload_n 0, 1) := by decide +kernel
theorem dX8_mendMessages_150 : decode cX8_mendMessages 150 = .ok (.getfield 37, 3) := by decide +kernel
theorem dX8_mendMessages_153 : decode cX8_mendMessages 153 = .ok (.getfield 128, 3) := by decide +kernel
theorem dX8_mendMessages_156 : decode cX8_mendMessages 156 = .ok (.if_icmp .ge 76, 3) := by decide +kernel
theorem dX8_mendMessages_159 : decode cX8_mendMessages 159 = .ok (.aload_n 0, 1) := by decide +kernel
theorem dX8_mendMessages_160 : decode cX8_mendMessages 160 = .ok (.getfield 37, 3) := by decide +kernel
theorem dX8_mendMessages_163 : decode cX8_mendMessages 163 = .ok (.getfield 131, 3) := by decide +kernel
theorem dX8_mendMessages_166 : decode cX8_mendMessages 166 = .ok (.iload_n 1, 1) := by decide +kernel
theorem dX8_mendMessages_167 : decode cX8_mendMessages 167 = .ok (.iload 7, 2) := by decide +kernel
theorem dX8_mendMessages_169 : decode cX8_mendMessages 169 = .ok (.iadd, 1) := by decide +kernel
theorem dX8_mendMessages_170 : decode cX8_mendMessages 170 = .ok (.iaload, 1) := by decide +kernel
theorem dX8_mendMessages_171 : decode cX8_mendMessages 171 = .ok (.ifCond .lt 55, 3) := by decide +kernel
theorem dX8_mendMessages_174 : decode cX8_mendMessages 174 = .ok (.iload 7, 2) := by decide +kernel
theorem dX8_mendMessages_176 : decode cX8_mendMessages 176 = .ok (.iload 4, 2) := by decide +kernel
theorem dX8_mendMessages_178 : decode cX8_mendMessages 178 = .ok (.if_icmp .ne 11, 3) := by decide +kernel
theorem dX8_mendMessages_181 : decode cX8_mendMessages 181 = .ok (.aload_n 0, 1) := by decide +kernel
theorem dX8_mendMessages_182 : decode cX8_mendMessages 182 = .ok (.iload_n 3, 1) := by decide +kernel
theorem dX8_mendMessages_183 : decode cX8_mendMessages 183 = .ok (.invokevirtual 141, 3) := by decide +kernel
theorem dX8_mendMessages_186 : decode cX8_mendMessages 186 = .ok (.goto 5, 3) := by decide +kernel
theorem dX8_mendMessages_189 : decode cX8_mendMessages 189 = .ok (.iload 6, 2) := by decide +kernel
theorem dX8_mendMessages_191 : decode cX8_mendMessages 191 = .ok (.istore 8, 2) := by decide +kernel
theorem dX8_mendMessages_193 : decode cX8_mendMessages 193 = .ok (.aload_n 0, 1) := by decide +kernel
theorem dX8_mendMessages_194 : decode cX8_mendMessages 194 = .ok (.getfield 25, 3) := by decide +kernel
theorem dX8_mendMessages_197 : decode cX8_mendMessages 197 = .ok (.iload_n 1, 1) := by decide +kernel
theorem dX8_mendMessages_198 : decode cX8_mendMessages 198 = .ok (.iload 7, 2) := by decide +kernel
theorem dX8_mendMessages_200 : decode cX8_mendMessages 200 = .ok (.iadd, 1) := by decide +kernel
theorem dX8_mendMessages_201 : decode cX8_mendMessages 201 = .ok (.iload 5, 2) := by decide +kernel
theorem dX8_mendMessages_203 : decode cX8_mendMessages 203 = .ok (.aload_n 0, 1) := by decide +kernel
theorem dX8_mendMessages_204 : decode cX8_mendMessages 204 = .ok (.getfield 34, 3) := by decide +kernel
theorem dX8_mendMessages_207 : decode cX8_mendMessages 207 = .ok (.iload 7, 2) := by decide +kernel
theorem dX8_mendMessages_209 : decode cX8_mendMessages 209 = .ok (.iaload, 1) := by decide +kernel
theorem dX8_mendMessages_210 : decode cX8_mendMessages 210 = .ok (.bipush 31, 2) := by decide +kernel
theorem dX8_mendMessages_212 : decode cX8_mendMessages 212 = .ok (.iushr, 1) := by decide +kernel
theorem dX8_mendMessages_213 : decode cX8_mendMessages 213 = .ok (.ixor, 1) := by decide +kernel
theorem dX8_mendMessages_214 : decode cX8_mendMessages 214 = .ok (.ifCond .eq 9, 3) := by decide +kernel
theorem dX8_mendMessages_217 : decode cX8_mendMessages 217 = .ok (.iload 8, 2) := by decide +kernel
theorem dX8_mendMessages_219 : decode cX8_mendMessages 219 = .ok (.ineg, 1) := by decide +kernel
theorem dX8_mendMessages_220 : decode cX8_mendMessages 220 = .ok (.goto 5, 3) := by decide +kernel
theorem dX8_mendMessages_223 : decode cX8_mendMessages 223 = .ok (.iload 8, 2) := by decide +kernel
theorem dX8_mendMessages_225 : decode cX8_mendMessages 225 = .ok (.iastore, 1) := by decide +kernel
theorem dX8_mendMessages_226 : decode cX8_mendMessages 226 = .ok (.iinc 7 1, 3) := by decide +kernel
theorem dX8_mendMessages_229 : decode cX8_mendMessages 229 = .ok (.goto (-82), 3) := by decide +kernel
theorem dX8_mendMessages_232 : decode cX8_mendMessages 232 = .ok (.return_, 1) := by decide +kernel
theorem dX8_sizeOf_0 : decode cX8_sizeOf 0 = .ok (.iload_n 1, 1) := by decide +kernel
theorem dX8_sizeOf_1 : decode cX8_sizeOf 1 = .ok (.sipush 1000, 3) := by decide +kernel
theorem dX8_sizeOf_4 : decode cX8_sizeOf 4 = .ok (.if_icmp .ge 14, 3) := by decide +kernel
theorem dX8_sizeOf_7 : decode cX8_sizeOf 7 = .ok (.iload_n 1, 1) := by decide +kernel
theorem dX8_sizeOf_8 : decode cX8_sizeOf 8 = .ok (.aload_n 0, 1) := by decide +kernel
theorem dX8_sizeOf_9 : decode cX8_sizeOf 9 = .ok (.getfield 37, 3) := by decide +kernel
theorem dX8_sizeOf_12 : decode cX8_sizeOf 12 = .ok (.getfield 144, 3) := by decide +kernel
theorem dX8_sizeOf_15 : decode cX8_sizeOf 15 = .ok (.if_icmp .gt 5, 3) := by decide +kernel
theorem dX8_sizeOf_18 : decode cX8_sizeOf 18 = .ok (.iconst 0, 1) := by decide +kernel
theorem dX8_sizeOf_19 : decode cX8_sizeOf 19 = .ok (.ireturn, 1) := by decide +kernel
theorem dX8_sizeOf_20 : decode cX8_sizeOf 20 = .ok (.iload_n 1, 1) := by decide +kernel
theorem dX8_sizeOf_21 : decode cX8_sizeOf 21 = .ok (.aload_n 0, 1) := by decide +kernel
theorem dX8_sizeOf_22 : decode cX8_sizeOf 22 = .ok (.getfield 37, 3) := by decide +kernel
theorem dX8_sizeOf_25 : decode cX8_sizeOf 25 = .ok (.getfield 144, 3) := by decide +kernel
theorem dX8_sizeOf_28 : decode cX8_sizeOf 28 = .ok (.isub, 1) := by decide +kernel
theorem dX8_sizeOf_29 : decode cX8_sizeOf 29 = .ok (.aload_n 0, 1) := by decide +kernel
theorem dX8_sizeOf_30 : decode cX8_sizeOf 30 = .ok (.getfield 37, 3) := by decide +kernel
theorem dX8_sizeOf_33 : decode cX8_sizeOf 33 = .ok (.getfield 147, 3) := by decide +kernel
theorem dX8_sizeOf_36 : decode cX8_sizeOf 36 = .ok (.if_icmp .ge 15, 3) := by decide +kernel
theorem dX8_sizeOf_39 : decode cX8_sizeOf 39 = .ok (.iload_n 1, 1) := by decide +kernel
theorem dX8_sizeOf_40 : decode cX8_sizeOf 40 = .ok (.aload_n 0, 1) := by decide +kernel
theorem dX8_sizeOf_41 : decode cX8_sizeOf 41 = .ok (.getfield 37, 3) := by decide +kernel
theorem dX8_sizeOf_44 : decode cX8_sizeOf 44 = .ok (.getfield 144, 3) := by decide +kernel
theorem dX8_sizeOf_47 : decode cX8_sizeOf 47 = .ok (.isub, 1) := by decide +kernel
theorem dX8_sizeOf_48 : decode cX8_sizeOf 48 = .ok (.goto 10, 3) := by decide +kernel
theorem dX8_sizeOf_51 : decode cX8_sizeOf 51 = .ok (.aload_n 0, 1) := by decide +kernel
theorem dX8_sizeOf_52 : decode cX8_sizeOf 52 = .ok (.getfield 37, 3) := by decide +kernel
theorem dX8_sizeOf_55 : decode cX8_sizeOf 55 = .ok (.getfield 147, 3) := by decide +kernel
theorem dX8_sizeOf_58 : decode cX8_sizeOf 58 = .ok (.ireturn, 1) := by decide +kernel
theorem dX8_hold_0 : decode cX8_hold 0 = .ok (.iload_n 0, 1) := by decide +kernel
theorem dX8_hold_1 : decode cX8_hold 1 = .ok (.bipush (-99), 2) := by decide +kernel
theorem dX8_hold_3 : decode cX8_hold 3 = .ok (.if_icmp .ge 6, 3) := by decide +kernel
theorem dX8_hold_6 : decode cX8_hold 6 = .ok (.bipush (-99), 2) := by decide +kernel
theorem dX8_hold_8 : decode cX8_hold 8 = .ok (.ireturn, 1) := by decide +kernel
theorem dX8_hold_9 : decode cX8_hold 9 = .ok (.iload_n 0, 1) := by decide +kernel
theorem dX8_hold_10 : decode cX8_hold 10 = .ok (.bipush 99, 2) := by decide +kernel
theorem dX8_hold_12 : decode cX8_hold 12 = .ok (.if_icmp .le 8, 3) := by decide +kernel
theorem dX8_hold_15 : decode cX8_hold 15 = .ok (.bipush 99, 2) := by decide +kernel
theorem dX8_hold_17 : decode cX8_hold 17 = .ok (.goto 4, 3) := by decide +kernel
theorem dX8_hold_20 : decode cX8_hold 20 = .ok (.iload_n 0, 1) := by decide +kernel
theorem dX8_hold_21 : decode cX8_hold 21 = .ok (.ireturn, 1) := by decide +kernel
theorem dX8_costOf_0 : decode cX8_costOf 0 = .ok (.iconst 0, 1) := by decide +kernel
theorem dX8_costOf_1 : decode cX8_costOf 1 = .ok (.istore_n 3, 1) := by decide +kernel
theorem dX8_costOf_2 : decode cX8_costOf 2 = .ok (.iconst 0, 1) := by decide +kernel
theorem dX8_costOf_3 : decode cX8_costOf 3 = .ok (.istore 4, 2) := by decide +kernel
theorem dX8_costOf_5 : decode cX8_costOf 5 = .ok (.iload 4, 2) := by decide +kernel
theorem dX8_costOf_7 : decode cX8_costOf 7 = .ok (.aload_n 0, 1) := by decide +kernel
theorem dX8_costOf_8 : decode cX8_costOf 8 = .ok (.getfield 37, 3) := by decide +kernel
theorem dX8_costOf_11 : decode cX8_costOf 11 = .ok (.getfield 94, 3) := by decide +kernel
theorem dX8_costOf_14 : decode cX8_costOf 14 = .ok (.if_icmp .ge 50, 3) := by decide +kernel
theorem dX8_costOf_17 : decode cX8_costOf 17 = .ok (.aload_n 0, 1) := by decide +kernel
theorem dX8_costOf_18 : decode cX8_costOf 18 = .ok (.getfield 15, 3) := by decide +kernel
theorem dX8_costOf_21 : decode cX8_costOf 21 = .ok (.iload 4, 2) := by decide +kernel
theorem dX8_costOf_23 : decode cX8_costOf 23 = .ok (.iaload, 1) := by decide +kernel
theorem dX8_costOf_24 : decode cX8_costOf 24 = .ok (.istore 5, 2) := by decide +kernel
theorem dX8_costOf_26 : decode cX8_costOf 26 = .ok (.lload_n 1, 1) := by decide +kernel
theorem dX8_costOf_27 : decode cX8_costOf 27 = .ok (.iload 4, 2) := by decide +kernel
theorem dX8_costOf_29 : decode cX8_costOf 29 = .ok (.lshr, 1) := by decide +kernel
theorem dX8_costOf_30 : decode cX8_costOf 30 = .ok (.lconst 1, 1) := by decide +kernel
theorem dX8_costOf_31 : decode cX8_costOf 31 = .ok (.land, 1) := by decide +kernel
theorem dX8_costOf_32 : decode cX8_costOf 32 = .ok (.lconst 0, 1) := by decide +kernel
theorem dX8_costOf_33 : decode cX8_costOf 33 = .ok (.lcmp, 1) := by decide +kernel
theorem dX8_costOf_34 : decode cX8_costOf 34 = .ok (.ifCond .eq 11, 3) := by decide +kernel
theorem dX8_costOf_37 : decode cX8_costOf 37 = .ok (.iload 5, 2) := by decide +kernel
theorem dX8_costOf_39 : decode cX8_costOf 39 = .ok (.ifCond .le 19, 3) := by decide +kernel
theorem dX8_costOf_42 : decode cX8_costOf 42 = .ok (.goto 8, 3) := by decide +kernel
theorem dX8_costOf_45 : decode cX8_costOf 45 = .ok (.iload 5, 2) := by decide +kernel
theorem dX8_costOf_47 : decode cX8_costOf 47 = .ok (.ifCond .ge 11, 3) := by decide +kernel
theorem dX8_costOf_50 : decode cX8_costOf 50 = .ok (.iload_n 3, 1) := by decide +kernel
theorem dX8_costOf_51 : decode cX8_costOf 51 = .ok (.iload 5, 2) := by decide +kernel
theorem dX8_costOf_53 : decode cX8_costOf 53 = .ok (.invokestatic 150, 3) := by decide +kernel
theorem dX8_costOf_56 : decode cX8_costOf 56 = .ok (.iadd, 1) := by decide +kernel
theorem dX8_costOf_57 : decode cX8_costOf 57 = .ok (.istore_n 3, 1) := by decide +kernel
theorem dX8_costOf_58 : decode cX8_costOf 58 = .ok (.iinc 4 1, 3) := by decide +kernel
theorem dX8_costOf_61 : decode cX8_costOf 61 = .ok (.goto (-56), 3) := by decide +kernel
theorem dX8_costOf_64 : decode cX8_costOf 64 = .ok (.iload_n 3, 1) := by decide +kernel
theorem dX8_costOf_65 : decode cX8_costOf 65 = .ok (.ireturn, 1) := by decide +kernel
theorem dX8_outcome_0 : decode cX8_outcome 0 = .ok (.aload_n 0, 1) := by decide +kernel
theorem dX8_outcome_1 : decode cX8_outcome 1 = .ok (.getfield 60, 3) := by decide +kernel
theorem dX8_outcome_4 : decode cX8_outcome 4 = .ok (.aload_n 0, 1) := by decide +kernel
theorem dX8_outcome_5 : decode cX8_outcome 5 = .ok (.getfield 41, 3) := by decide +kernel
theorem dX8_outcome_8 : decode cX8_outcome 8 = .ok (.lcmp, 1) := by decide +kernel
theorem dX8_outcome_9 : decode cX8_outcome 9 = .ok (.ifCond .ne 5, 3) := by decide +kernel
theorem dX8_outcome_12 : decode cX8_outcome 12 = .ok (.iconst 0, 1) := by decide +kernel
theorem dX8_outcome_13 : decode cX8_outcome 13 = .ok (.ireturn, 1) := by decide +kernel
theorem dX8_outcome_14 : decode cX8_outcome 14 = .ok (.aload_n 0, 1) := by decide +kernel
theorem dX8_outcome_15 : decode cX8_outcome 15 = .ok (.getfield 48, 3) := by decide +kernel
theorem dX8_outcome_18 : decode cX8_outcome 18 = .ok (.iconst 1, 1) := by decide +kernel
theorem dX8_outcome_19 : decode cX8_outcome 19 = .ok (.if_icmp .ne 7, 3) := by decide +kernel
theorem dX8_outcome_22 : decode cX8_outcome 22 = .ok (.iconst 1, 1) := by decide +kernel
theorem dX8_outcome_23 : decode cX8_outcome 23 = .ok (.goto 4, 3) := by decide +kernel
theorem dX8_outcome_26 : decode cX8_outcome 26 = .ok (.iconst 2, 1) := by decide +kernel
theorem dX8_outcome_27 : decode cX8_outcome 27 = .ok (.ireturn, 1) := by decide +kernel
theorem dX9_init_0 : decode cX9_init 0 = .ok (.aload_n 0, 1) := by decide +kernel
theorem dX9_init_1 : decode cX9_init 1 = .ok (.invokespecial 1, 3) := by decide +kernel
theorem dX9_init_4 : decode cX9_init 4 = .ok (.new 7, 3) := by decide +kernel
theorem dX9_init_7 : decode cX9_init 7 = .ok (.dup, 1) := by decide +kernel
theorem dX9_init_8 : decode cX9_init 8 = .ok (.iconst 1, 1) := by decide +kernel
theorem dX9_init_9 : decode cX9_init 9 = .ok (.iconst 1, 1) := by decide +kernel
theorem dX9_init_10 : decode cX9_init 10 = .ok (.iconst 2, 1) := by decide +kernel
theorem dX9_init_11 : decode cX9_init 11 = .ok (.iconst 1, 1) := by decide +kernel
theorem dX9_init_12 : decode cX9_init 12 = .ok (.bipush 15, 2) := by decide +kernel
theorem dX9_init_14 : decode cX9_init 14 = .ok (.bipush 32, 2) := by decide +kernel
theorem dX9_init_16 : decode cX9_init 16 = .ok (.newarray .int, 2) := by decide +kernel
theorem dX9_init_18 : decode cX9_init 18 = .ok (.invokespecial 11, 3) := by decide +kernel
theorem dX9_init_21 : decode cX9_init 21 = .ok (.astore_n 1, 1) := by decide +kernel
theorem dX9_init_22 : decode cX9_init 22 = .ok (.aload_n 0, 1) := by decide +kernel
theorem dX9_init_23 : decode cX9_init 23 = .ok (.new 14, 3) := by decide +kernel
theorem dX9_init_26 : decode cX9_init 26 = .ok (.dup, 1) := by decide +kernel
theorem dX9_init_27 : decode cX9_init 27 = .ok (.aload_n 1, 1) := by decide +kernel
theorem dX9_init_28 : decode cX9_init 28 = .ok (.invokespecial 16, 3) := by decide +kernel
theorem dX9_init_31 : decode cX9_init 31 = .ok (.putfield 19, 3) := by decide +kernel
theorem dX9_init_34 : decode cX9_init 34 = .ok (.aload_n 0, 1) := by decide +kernel
theorem dX9_init_35 : decode cX9_init 35 = .ok (.new 14, 3) := by decide +kernel
theorem dX9_init_38 : decode cX9_init 38 = .ok (.dup, 1) := by decide +kernel
theorem dX9_init_39 : decode cX9_init 39 = .ok (.aload_n 1, 1) := by decide +kernel
theorem dX9_init_40 : decode cX9_init 40 = .ok (.invokespecial 16, 3) := by decide +kernel
theorem dX9_init_43 : decode cX9_init 43 = .ok (.putfield 23, 3) := by decide +kernel
theorem dX9_init_46 : decode cX9_init 46 = .ok (.aload_n 0, 1) := by decide +kernel
theorem dX9_init_47 : decode cX9_init 47 = .ok (.new 26, 3) := by decide +kernel
theorem dX9_init_50 : decode cX9_init 50 = .ok (.dup, 1) := by decide +kernel
theorem dX9_init_51 : decode cX9_init 51 = .ok (.invokespecial 28, 3) := by decide +kernel
theorem dX9_init_54 : decode cX9_init 54 = .ok (.putfield 29, 3) := by decide +kernel
theorem dX9_init_57 : decode cX9_init 57 = .ok (.aload_n 0, 1) := by decide +kernel
theorem dX9_init_58 : decode cX9_init 58 = .ok (.new 33, 3) := by decide +kernel
theorem dX9_init_61 : decode cX9_init 61 = .ok (.dup, 1) := by decide +kernel
theorem dX9_init_62 : decode cX9_init 62 = .ok (.aload_n 1, 1) := by decide +kernel
theorem dX9_init_63 : decode cX9_init 63 = .ok (.invokespecial 35, 3) := by decide +kernel
theorem dX9_init_66 : decode cX9_init 66 = .ok (.putfield 36, 3) := by decide +kernel
theorem dX9_init_69 : decode cX9_init 69 = .ok (.aload_n 0, 1) := by decide +kernel
theorem dX9_init_70 : decode cX9_init 70 = .ok (.new 40, 3) := by decide +kernel
theorem dX9_init_73 : decode cX9_init 73 = .ok (.dup, 1) := by decide +kernel
theorem dX9_init_74 : decode cX9_init 74 = .ok (.aload_n 1, 1) := by decide +kernel
theorem dX9_init_75 : decode cX9_init 75 = .ok (.invokespecial 42, 3) := by decide +kernel
theorem dX9_init_78 : decode cX9_init 78 = .ok (.putfield 43, 3) := by decide +kernel
theorem dX9_init_81 : decode cX9_init 81 = .ok (.aload_n 0, 1) := by decide +kernel
theorem dX9_init_82 : decode cX9_init 82 = .ok (.new 47, 3) := by decide +kernel
theorem dX9_init_85 : decode cX9_init 85 = .ok (.dup, 1) := by decide +kernel
theorem dX9_init_86 : decode cX9_init 86 = .ok (.invokespecial 49, 3) := by decide +kernel
theorem dX9_init_89 : decode cX9_init 89 = .ok (.putfield 50, 3) := by decide +kernel
theorem dX9_init_92 : decode cX9_init 92 = .ok (.aload_n 0, 1) := by decide +kernel
theorem dX9_init_93 : decode cX9_init 93 = .ok (.new 54, 3) := by decide +kernel
theorem dX9_init_96 : decode cX9_init 96 = .ok (.dup, 1) := by decide +kernel
theorem dX9_init_97 : decode cX9_init 97 = .ok (.invokespecial 56, 3) := by decide +kernel
theorem dX9_init_100 : decode cX9_init 100 = .ok (.putfield 57, 3) := by decide +kernel
theorem dX9_init_103 : decode cX9_init 103 = .ok (.return_, 1) := by decide +kernel
theorem dX9_feed_0 : decode cX9_feed 0 = .ok (.aload_n 0, 1) := by decide +kernel
theorem dX9_feed_1 : decode cX9_feed 1 = .ok (.getfield 29, 3) := by decide +kernel
theorem dX9_feed_4 : decode cX9_feed 4 = .ok (.getfield 61, 3) := by decide +kernel
theorem dX9_feed_7 : decode cX9_feed 7 = .ok (.bipush 20, 2) := by decide +kernel
theorem dX9_feed_9 : decode cX9_feed 9 = .ok (.iadd, 1) := by decide +kernel
theorem dX9_feed_10 : decode cX9_feed 10 = .ok (.sipush 300, 3) := by decide +kernel
theorem dX9_feed_13 : decode cX9_feed 13 = .ok (.if_icmp .le 5, 3) := by decide +kernel
theorem dX9_feed_16 : decode cX9_feed 16 = .ok (.iconst (-1), 1) := by decide +kernel
theorem dX9_feed_17 : decode cX9_feed 17 = .ok (.ireturn, 1) := by decide +kernel
theorem dX9_feed_18 : decode cX9_feed 18 = .ok (.aload_n 0, 1) := by decide +kernel
theorem dX9_feed_19 : decode cX9_feed 19 = .ok (.getfield 29, 3) := by decide +kernel
theorem dX9_feed_22 : decode cX9_feed 22 = .ok (.iload_n 1, 1) := by decide +kernel
theorem dX9_feed_23 : decode cX9_feed 23 = .ok (.invokevirtual 65, 3) := by decide +kernel
theorem dX9_feed_26 : decode cX9_feed 26 = .ok (.aload_n 0, 1) := by decide +kernel
theorem dX9_feed_27 : decode cX9_feed 27 = .ok (.getfield 29, 3) := by decide +kernel
theorem dX9_feed_30 : decode cX9_feed 30 = .ok (.iload_n 2, 1) := by decide +kernel
theorem dX9_feed_31 : decode cX9_feed 31 = .ok (.invokevirtual 65, 3) := by decide +kernel
theorem dX9_feed_34 : decode cX9_feed 34 = .ok (.aload_n 0, 1) := by decide +kernel
theorem dX9_feed_35 : decode cX9_feed 35 = .ok (.getfield 29, 3) := by decide +kernel
theorem dX9_feed_38 : decode cX9_feed 38 = .ok (.iload_n 3, 1) := by decide +kernel
theorem dX9_feed_39 : decode cX9_feed 39 = .ok (.invokevirtual 65, 3) := by decide +kernel
theorem dX9_feed_42 : decode cX9_feed 42 = .ok (.aload_n 0, 1) := by decide +kernel
theorem dX9_feed_43 : decode cX9_feed 43 = .ok (.getfield 29, 3) := by decide +kernel
theorem dX9_feed_46 : decode cX9_feed 46 = .ok (.iload 4, 2) := by decide +kernel
theorem dX9_feed_48 : decode cX9_feed 48 = .ok (.invokevirtual 65, 3) := by decide +kernel
theorem dX9_feed_51 : decode cX9_feed 51 = .ok (.aload_n 0, 1) := by decide +kernel
theorem dX9_feed_52 : decode cX9_feed 52 = .ok (.getfield 29, 3) := by decide +kernel
theorem dX9_feed_55 : decode cX9_feed 55 = .ok (.iload 5, 2) := by decide +kernel
theorem dX9_feed_57 : decode cX9_feed 57 = .ok (.invokevirtual 65, 3) := by decide +kernel
theorem dX9_feed_60 : decode cX9_feed 60 = .ok (.aload_n 0, 1) := by decide +kernel
theorem dX9_feed_61 : decode cX9_feed 61 = .ok (.getfield 29, 3) := by decide +kernel
theorem dX9_feed_64 : decode cX9_feed 64 = .ok (.getfield 61, 3) := by decide +kernel
theorem dX9_feed_67 : decode cX9_feed 67 = .ok (.ireturn, 1) := by decide +kernel
theorem dX9_end_0 : decode cX9_end 0 = .ok (.iload_n 1, 1) := by decide +kernel
theorem dX9_end_1 : decode cX9_end 1 = .ok (.ifCond .lt 14, 3) := by decide +kernel
theorem dX9_end_4 : decode cX9_end 4 = .ok (.iload_n 1, 1) := by decide +kernel
theorem dX9_end_5 : decode cX9_end 5 = .ok (.aload_n 0, 1) := by decide +kernel
theorem dX9_end_6 : decode cX9_end 6 = .ok (.getfield 29, 3) := by decide +kernel
theorem dX9_end_9 : decode cX9_end 9 = .ok (.getfield 61, 3) := by decide +kernel
theorem dX9_end_12 : decode cX9_end 12 = .ok (.if_icmp .le 5, 3) := by decide +kernel
theorem dX9_end_15 : decode cX9_end 15 = .ok (.iconst (-1), 1) := by decide +kernel
theorem dX9_end_16 : decode cX9_end 16 = .ok (.ireturn, 1) := by decide +kernel
theorem dX9_end_17 : decode cX9_end 17 = .ok (.aload_n 0, 1) := by decide +kernel
theorem dX9_end_18 : decode cX9_end 18 = .ok (.getfield 29, 3) := by decide +kernel
theorem dX9_end_21 : decode cX9_end 21 = .ok (.iload_n 1, 1) := by decide +kernel
theorem dX9_end_22 : decode cX9_end 22 = .ok (.putfield 61, 3) := by decide +kernel
theorem dX9_end_25 : decode cX9_end 25 = .ok (.iload_n 1, 1) := by decide +kernel
theorem dX9_end_26 : decode cX9_end 26 = .ok (.ireturn, 1) := by decide +kernel
theorem dX9_text_0 : decode cX9_text 0 = .ok (.aload_n 0, 1) := by decide +kernel
theorem dX9_text_1 : decode cX9_text 1 = .ok (.getfield 19, 3) := by decide +kernel
theorem dX9_text_4 : decode cX9_text 4 = .ok (.getfield 69, 3) := by decide +kernel
theorem dX9_text_7 : decode cX9_text 7 = .ok (.iconst 4, 1) := by decide +kernel
theorem dX9_text_8 : decode cX9_text 8 = .ok (.if_icmp .lt 5, 3) := by decide +kernel
theorem dX9_text_11 : decode cX9_text 11 = .ok (.iconst (-1), 1) := by decide +kernel
theorem dX9_text_12 : decode cX9_text 12 = .ok (.ireturn, 1) := by decide +kernel
theorem dX9_text_13 : decode cX9_text 13 = .ok (.aload_n 0, 1) := by decide +kernel
theorem dX9_text_14 : decode cX9_text 14 = .ok (.getfield 29, 3) := by decide +kernel
theorem dX9_text_17 : decode cX9_text 17 = .ok (.invokevirtual 72, 3) := by decide +kernel
theorem dX9_text_20 : decode cX9_text 20 = .ok (.astore_n 1, 1) := by decide +kernel
theorem dX9_text_21 : decode cX9_text 21 = .ok (.aload_n 0, 1) := by decide +kernel
theorem dX9_text_22 : decode cX9_text 22 = .ok (.getfield 29, 3) := by decide +kernel
theorem dX9_text_25 : decode cX9_text 25 = .ok (.iconst 0, 1) := by decide +kernel
theorem dX9_text_26 : decode cX9_text 26 = .ok (.putfield 61, 3) := by decide +kernel
theorem dX9_text_29 : decode cX9_text 29 = .ok (.aload_n 1, 1) := by decide +kernel
theorem dX9_text_30 : decode cX9_text 30 = .ok (.ifnonnull 5, 3) := by decide +kernel
theorem dX9_text_33 : decode cX9_text 33 = .ok (.iconst (-1), 1) := by decide +kernel
theorem dX9_text_34 : decode cX9_text 34 = .ok (.ireturn, 1) := by decide +kernel
theorem dX9_text_35 : decode cX9_text 35 = .ok (.aload_n 0, 1) := by decide +kernel
theorem dX9_text_36 : decode cX9_text 36 = .ok (.getfield 19, 3) := by decide +kernel
theorem dX9_text_39 : decode cX9_text 39 = .ok (.getfield 76, 3) := by decide +kernel
theorem dX9_text_42 : decode cX9_text 42 = .ok (.aload_n 0, 1) := by decide +kernel
theorem dX9_text_43 : decode cX9_text 43 = .ok (.getfield 19, 3) := by decide +kernel
theorem dX9_text_46 : decode cX9_text 46 = .ok (.getfield 69, 3) := by decide +kernel
theorem dX9_text_49 : decode cX9_text 49 = .ok (.aload_n 1, 1) := by decide +kernel
theorem dX9_text_50 : decode cX9_text 50 = .ok (.aastore, 1) := by decide +kernel
theorem dX9_text_51 : decode cX9_text 51 = .ok (.aload_n 0, 1) := by decide +kernel
theorem dX9_text_52 : decode cX9_text 52 = .ok (.getfield 19, 3) := by decide +kernel
theorem dX9_text_55 : decode cX9_text 55 = .ok (.dup, 1) := by decide +kernel
theorem dX9_text_56 : decode cX9_text 56 = .ok (.getfield 69, 3) := by decide +kernel
theorem dX9_text_59 : decode cX9_text 59 = .ok (.iconst 1, 1) := by decide +kernel
theorem dX9_text_60 : decode cX9_text 60 = .ok (.iadd, 1) := by decide +kernel
theorem dX9_text_61 : decode cX9_text 61 = .ok (.putfield 69, 3) := by decide +kernel
theorem dX9_text_64 : decode cX9_text 64 = .ok (.aload_n 0, 1) := by decide +kernel
theorem dX9_text_65 : decode cX9_text 65 = .ok (.getfield 19, 3) := by decide +kernel
theorem dX9_text_68 : decode cX9_text 68 = .ok (.getfield 69, 3) := by decide +kernel
theorem dX9_text_71 : decode cX9_text 71 = .ok (.iconst 1, 1) := by decide +kernel
theorem dX9_text_72 : decode cX9_text 72 = .ok (.isub, 1) := by decide +kernel
theorem dX9_text_73 : decode cX9_text 73 = .ok (.ireturn, 1) := by decide +kernel
theorem dX9_fault_0 : decode cX9_fault 0 = .ok (.iload_n 1, 1) := by decide +kernel
theorem dX9_fault_1 : decode cX9_fault 1 = .ok (.lookupswitch 43 #[(0, 27), (1, 35)], 27) := by decide +kernel
theorem dX9_fault_28 : decode cX9_fault 28 = .ok (.aload_n 0, 1) := by decide +kernel
theorem dX9_fault_29 : decode cX9_fault 29 = .ok (.getfield 29, 3) := by decide +kernel
theorem dX9_fault_32 : decode cX9_fault 32 = .ok (.getfield 80, 3) := by decide +kernel
theorem dX9_fault_35 : decode cX9_fault 35 = .ok (.ireturn, 1) := by decide +kernel
theorem dX9_fault_36 : decode cX9_fault 36 = .ok (.aload_n 0, 1) := by decide +kernel
theorem dX9_fault_37 : decode cX9_fault 37 = .ok (.getfield 29, 3) := by decide +kernel
theorem dX9_fault_40 : decode cX9_fault 40 = .ok (.getfield 83, 3) := by decide +kernel
theorem dX9_fault_43 : decode cX9_fault 43 = .ok (.ireturn, 1) := by decide +kernel
theorem dX9_fault_44 : decode cX9_fault 44 = .ok (.iconst (-1), 1) := by decide +kernel
theorem dX9_fault_45 : decode cX9_fault 45 = .ok (.ireturn, 1) := by decide +kernel
theorem dX9_load_0 : decode cX9_load 0 = .ok (.iload_n 1, 1) := by decide +kernel
theorem dX9_load_1 : decode cX9_load 1 = .ok (.ifCond .lt 19, 3) := by decide +kernel
theorem dX9_load_4 : decode cX9_load 4 = .ok (.iload_n 1, 1) := by decide +kernel
theorem dX9_load_5 : decode cX9_load 5 = .ok (.aload_n 0, 1) := by decide +kernel
theorem dX9_load_6 : decode cX9_load 6 = .ok (.getfield 19, 3) := by decide +kernel
theorem dX9_load_9 : decode cX9_load 9 = .ok (.getfield 69, 3) := by decide +kernel
theorem dX9_load_12 : decode cX9_load 12 = .ok (.if_icmp .ge 8, 3) := by decide +kernel
theorem dX9_load_15 : decode cX9_load 15 = .ok (.iload_n 1, 1) := by decide +kernel
theorem dX9_load_16 : decode cX9_load 16 = .ok (.iconst 4, 1) := by decide +kernel
theorem dX9_load_17 : decode cX9_load 17 = .ok (.if_icmp .lt 5, 3) := by decide +kernel
theorem dX9_load_20 : decode cX9_load 20 = .ok (.iconst (-1), 1) := by decide +kernel
theorem dX9_load_21 : decode cX9_load 21 = .ok (.ireturn, 1) := by decide +kernel
theorem dX9_load_22 : decode cX9_load 22 = .ok (.aload_n 0, 1) := by decide +kernel
theorem dX9_load_23 : decode cX9_load 23 = .ok (.getfield 19, 3) := by decide +kernel
theorem dX9_load_26 : decode cX9_load 26 = .ok (.getfield 76, 3) := by decide +kernel
theorem dX9_load_29 : decode cX9_load 29 = .ok (.iload_n 1, 1) := by decide +kernel
theorem dX9_load_30 : decode cX9_load 30 = .ok (.aaload, 1) := by decide +kernel
theorem dX9_load_31 : decode cX9_load 31 = .ok (.astore_n 2, 1) := by decide +kernel
theorem dX9_load_32 : decode cX9_load 32 = .ok (.aload_n 2, 1) := by decide +kernel
theorem dX9_load_33 : decode cX9_load 33 = .ok (.ifnonnull 5, 3) := by decide +kernel
theorem dX9_load_36 : decode cX9_load 36 = .ok (.iconst (-1), 1) := by decide +kernel
theorem dX9_load_37 : decode cX9_load 37 = .ok (.ireturn, 1) := by decide +kernel
theorem dX9_load_38 : decode cX9_load 38 = .ok (.aload_n 0, 1) := by decide +kernel
theorem dX9_load_39 : decode cX9_load 39 = .ok (.invokevirtual 86, 3) := by decide +kernel
theorem dX9_load_42 : decode cX9_load 42 = .ok (.aload_n 0, 1) := by decide +kernel
theorem dX9_load_43 : decode cX9_load 43 = .ok (.getfield 19, 3) := by decide +kernel
theorem dX9_load_46 : decode cX9_load 46 = .ok (.getfield 89, 3) := by decide +kernel
theorem dX9_load_49 : decode cX9_load 49 = .ok (.aload_n 2, 1) := by decide +kernel
theorem dX9_load_50 : decode cX9_load 50 = .ok (.invokevirtual 92, 3) := by decide +kernel
theorem dX9_load_53 : decode cX9_load 53 = .ok (.aload_n 2, 1) := by decide +kernel
theorem dX9_load_54 : decode cX9_load 54 = .ok (.getfield 95, 3) := by decide +kernel
theorem dX9_load_57 : decode cX9_load 57 = .ok (.ireturn, 1) := by decide +kernel
theorem dX9_encode_0 : decode cX9_encode 0 = .ok (.aload_n 0, 1) := by decide +kernel
theorem dX9_encode_1 : decode cX9_encode 1 = .ok (.getfield 19, 3) := by decide +kernel
theorem dX9_encode_4 : decode cX9_encode 4 = .ok (.getfield 89, 3) := by decide +kernel
theorem dX9_encode_7 : decode cX9_encode 7 = .ok (.getfield 98, 3) := by decide +kernel
theorem dX9_encode_10 : decode cX9_encode 10 = .ok (.astore_n 3, 1) := by decide +kernel
theorem dX9_encode_11 : decode cX9_encode 11 = .ok (.lload_n 1, 1) := by decide +kernel
theorem dX9_encode_12 : decode cX9_encode 12 = .ok (.lconst 0, 1) := by decide +kernel
theorem dX9_encode_13 : decode cX9_encode 13 = .ok (.lcmp, 1) := by decide +kernel
theorem dX9_encode_14 : decode cX9_encode 14 = .ok (.ifCond .lt 19, 3) := by decide +kernel
theorem dX9_encode_17 : decode cX9_encode 17 = .ok (.lload_n 1, 1) := by decide +kernel
theorem dX9_encode_18 : decode cX9_encode 18 = .ok (.aload_n 3, 1) := by decide +kernel
theorem dX9_encode_19 : decode cX9_encode 19 = .ok (.getfield 95, 3) := by decide +kernel
theorem dX9_encode_22 : decode cX9_encode 22 = .ok (.aload_n 3, 1) := by decide +kernel
theorem dX9_encode_23 : decode cX9_encode 23 = .ok (.getfield 102, 3) := by decide +kernel
theorem dX9_encode_26 : decode cX9_encode 26 = .ok (.isub, 1) := by decide +kernel
theorem dX9_encode_27 : decode cX9_encode 27 = .ok (.lshr, 1) := by decide +kernel
theorem dX9_encode_28 : decode cX9_encode 28 = .ok (.lconst 0, 1) := by decide +kernel
theorem dX9_encode_29 : decode cX9_encode 29 = .ok (.lcmp, 1) := by decide +kernel
theorem dX9_encode_30 : decode cX9_encode 30 = .ok (.ifCond .eq 5, 3) := by decide +kernel
theorem dX9_encode_33 : decode cX9_encode 33 = .ok (.iconst (-1), 1) := by decide +kernel
theorem dX9_encode_34 : decode cX9_encode 34 = .ok (.ireturn, 1) := by decide +kernel
theorem dX9_encode_35 : decode cX9_encode 35 = .ok (.aload_n 0, 1) := by decide +kernel
theorem dX9_encode_36 : decode cX9_encode 36 = .ok (.invokevirtual 86, 3) := by decide +kernel
theorem dX9_encode_39 : decode cX9_encode 39 = .ok (.aload_n 0, 1) := by decide +kernel
theorem dX9_encode_40 : decode cX9_encode 40 = .ok (.getfield 19, 3) := by decide +kernel
theorem dX9_encode_43 : decode cX9_encode 43 = .ok (.getfield 89, 3) := by decide +kernel
theorem dX9_encode_46 : decode cX9_encode 46 = .ok (.aload_n 3, 1) := by decide +kernel
theorem dX9_encode_47 : decode cX9_encode 47 = .ok (.lload_n 1, 1) := by decide +kernel
theorem dX9_encode_48 : decode cX9_encode 48 = .ok (.invokevirtual 105, 3) := by decide +kernel
theorem dX9_encode_51 : decode cX9_encode 51 = .ok (.putfield 109, 3) := by decide +kernel
theorem dX9_encode_54 : decode cX9_encode 54 = .ok (.aload_n 0, 1) := by decide +kernel
theorem dX9_encode_55 : decode cX9_encode 55 = .ok (.getfield 19, 3) := by decide +kernel
theorem dX9_encode_58 : decode cX9_encode 58 = .ok (.getfield 89, 3) := by decide +kernel
theorem dX9_encode_61 : decode cX9_encode 61 = .ok (.getfield 109, 3) := by decide +kernel
theorem dX9_encode_64 : decode cX9_encode 64 = .ok (.invokestatic 113, 3) := by decide +kernel
theorem dX9_encode_67 : decode cX9_encode 67 = .ok (.ireturn, 1) := by decide +kernel
theorem dX9_raise_0 : decode cX9_raise 0 = .ok (.aload_n 0, 1) := by decide +kernel
theorem dX9_raise_1 : decode cX9_raise 1 = .ok (.getfield 19, 3) := by decide +kernel
theorem dX9_raise_4 : decode cX9_raise 4 = .ok (.getfield 89, 3) := by decide +kernel
theorem dX9_raise_7 : decode cX9_raise 7 = .ok (.getfield 98, 3) := by decide +kernel
theorem dX9_raise_10 : decode cX9_raise 10 = .ok (.astore_n 3, 1) := by decide +kernel
theorem dX9_raise_11 : decode cX9_raise 11 = .ok (.iload_n 1, 1) := by decide +kernel
theorem dX9_raise_12 : decode cX9_raise 12 = .ok (.ifCond .lt 21, 3) := by decide +kernel
theorem dX9_raise_15 : decode cX9_raise 15 = .ok (.iload_n 1, 1) := by decide +kernel
theorem dX9_raise_16 : decode cX9_raise 16 = .ok (.aload_n 3, 1) := by decide +kernel
theorem dX9_raise_17 : decode cX9_raise 17 = .ok (.getfield 119, 3) := by decide +kernel
theorem dX9_raise_20 : decode cX9_raise 20 = .ok (.if_icmp .ge 13, 3) := by decide +kernel
theorem dX9_raise_23 : decode cX9_raise 23 = .ok (.iload_n 2, 1) := by decide +kernel
theorem dX9_raise_24 : decode cX9_raise 24 = .ok (.iconst 1, 1) := by decide +kernel
theorem dX9_raise_25 : decode cX9_raise 25 = .ok (.if_icmp .lt 8, 3) := by decide +kernel
theorem dX9_raise_28 : decode cX9_raise 28 = .ok (.iload_n 2, 1) := by decide +kernel
theorem dX9_raise_29 : decode cX9_raise 29 = .ok (.iconst 5, 1) := by decide +kernel
theorem dX9_raise_30 : decode cX9_raise 30 = .ok (.if_icmp .le 5, 3) := by decide +kernel
theorem dX9_raise_33 : decode cX9_raise 33 = .ok (.iconst 0, 1) := by decide +kernel
theorem dX9_raise_34 : decode cX9_raise 34 = .ok (.ireturn, 1) := by decide +kernel
theorem dX9_raise_35 : decode cX9_raise 35 = .ok (.aload_n 0, 1) := by decide +kernel
theorem dX9_raise_36 : decode cX9_raise 36 = .ok (.invokevirtual 86, 3) := by decide +kernel
theorem dX9_raise_39 : decode cX9_raise 39 = .ok (.aload_n 0, 1) := by decide +kernel
theorem dX9_raise_40 : decode cX9_raise 40 = .ok (.getfield 19, 3) := by decide +kernel
theorem dX9_raise_43 : decode cX9_raise 43 = .ok (.getfield 89, 3) := by decide +kernel
theorem dX9_raise_46 : decode cX9_raise 46 = .ok (.aload_n 3, 1) := by decide +kernel
theorem dX9_raise_47 : decode cX9_raise 47 = .ok (.iconst (-1), 1) := by decide +kernel
theorem dX9_raise_48 : decode cX9_raise 48 = .ok (.iload_n 1, 1) := by decide +kernel
theorem dX9_raise_49 : decode cX9_raise 49 = .ok (.iload_n 2, 1) := by decide +kernel
theorem dX9_raise_50 : decode cX9_raise 50 = .ok (.invokevirtual 122, 3) := by decide +kernel
theorem dX9_raise_53 : decode cX9_raise 53 = .ok (.invokevirtual 92, 3) := by decide +kernel
theorem dX9_raise_56 : decode cX9_raise 56 = .ok (.iconst 1, 1) := by decide +kernel
theorem dX9_raise_57 : decode cX9_raise 57 = .ok (.ireturn, 1) := by decide +kernel
theorem dX9_slide_0 : decode cX9_slide 0 = .ok (.aload_n 0, 1) := by decide +kernel
theorem dX9_slide_1 : decode cX9_slide 1 = .ok (.getfield 19, 3) := by decide +kernel
theorem dX9_slide_4 : decode cX9_slide 4 = .ok (.getfield 89, 3) := by decide +kernel
theorem dX9_slide_7 : decode cX9_slide 7 = .ok (.getfield 98, 3) := by decide +kernel
theorem dX9_slide_10 : decode cX9_slide 10 = .ok (.astore_n 3, 1) := by decide +kernel
theorem dX9_slide_11 : decode cX9_slide 11 = .ok (.iload_n 1, 1) := by decide +kernel
theorem dX9_slide_12 : decode cX9_slide 12 = .ok (.ifCond .lt 21, 3) := by decide +kernel
theorem dX9_slide_15 : decode cX9_slide 15 = .ok (.iload_n 1, 1) := by decide +kernel
theorem dX9_slide_16 : decode cX9_slide 16 = .ok (.aload_n 3, 1) := by decide +kernel
theorem dX9_slide_17 : decode cX9_slide 17 = .ok (.getfield 126, 3) := by decide +kernel
theorem dX9_slide_20 : decode cX9_slide 20 = .ok (.if_icmp .ge 13, 3) := by decide +kernel
theorem dX9_slide_23 : decode cX9_slide 23 = .ok (.iload_n 2, 1) := by decide +kernel
theorem dX9_slide_24 : decode cX9_slide 24 = .ok (.iconst 1, 1) := by decide +kernel
theorem dX9_slide_25 : decode cX9_slide 25 = .ok (.if_icmp .lt 8, 3) := by decide +kernel
theorem dX9_slide_28 : decode cX9_slide 28 = .ok (.iload_n 2, 1) := by decide +kernel
theorem dX9_slide_29 : decode cX9_slide 29 = .ok (.iconst 5, 1) := by decide +kernel
theorem dX9_slide_30 : decode cX9_slide 30 = .ok (.if_icmp .le 5, 3) := by decide +kernel
theorem dX9_slide_33 : decode cX9_slide 33 = .ok (.iconst 0, 1) := by decide +kernel
theorem dX9_slide_34 : decode cX9_slide 34 = .ok (.ireturn, 1) := by decide +kernel
theorem dX9_slide_35 : decode cX9_slide 35 = .ok (.aload_n 0, 1) := by decide +kernel
theorem dX9_slide_36 : decode cX9_slide 36 = .ok (.invokevirtual 86, 3) := by decide +kernel
theorem dX9_slide_39 : decode cX9_slide 39 = .ok (.aload_n 0, 1) := by decide +kernel
theorem dX9_slide_40 : decode cX9_slide 40 = .ok (.getfield 19, 3) := by decide +kernel
theorem dX9_slide_43 : decode cX9_slide 43 = .ok (.getfield 89, 3) := by decide +kernel
theorem dX9_slide_46 : decode cX9_slide 46 = .ok (.aload_n 3, 1) := by decide +kernel
theorem dX9_slide_47 : decode cX9_slide 47 = .ok (.iload_n 1, 1) := by decide +kernel
theorem dX9_slide_48 : decode cX9_slide 48 = .ok (.iconst (-1), 1) := by decide +kernel
theorem dX9_slide_49 : decode cX9_slide 49 = .ok (.iload_n 2, 1) := by decide +kernel
theorem dX9_slide_50 : decode cX9_slide 50 = .ok (.invokevirtual 122, 3) := by decide +kernel
theorem dX9_slide_53 : decode cX9_slide 53 = .ok (.invokevirtual 92, 3) := by decide +kernel
theorem dX9_slide_56 : decode cX9_slide 56 = .ok (.iconst 1, 1) := by decide +kernel
theorem dX9_slide_57 : decode cX9_slide 57 = .ok (.ireturn, 1) := by decide +kernel
theorem dX9_hear_0 : decode cX9_hear 0 = .ok (.aload_n 0, 1) := by decide +kernel
theorem dX9_hear_1 : decode cX9_hear 1 = .ok (.iload_n 1, 1) := by decide +kernel
theorem dX9_hear_2 : decode cX9_hear 2 = .ok (.invokevirtual 129, 3) := by decide +kernel
theorem dX9_hear_5 : decode cX9_hear 5 = .ok (.ifCond .eq 15, 3) := by decide +kernel
theorem dX9_hear_8 : decode cX9_hear 8 = .ok (.iload_n 2, 1) := by decide +kernel
theorem dX9_hear_9 : decode cX9_hear 9 = .ok (.bipush (-31), 2) := by decide +kernel
theorem dX9_hear_11 : decode cX9_hear 11 = .ok (.if_icmp .lt 9, 3) := by decide +kernel
theorem dX9_hear_14 : decode cX9_hear 14 = .ok (.iload_n 2, 1) := by decide +kernel
theorem dX9_hear_15 : decode cX9_hear 15 = .ok (.bipush 31, 2) := by decide +kernel
theorem dX9_hear_17 : decode cX9_hear 17 = .ok (.if_icmp .le 5, 3) := by decide +kernel
theorem dX9_hear_20 : decode cX9_hear 20 = .ok (.iconst 0, 1) := by decide +kernel
theorem dX9_hear_21 : decode cX9_hear 21 = .ok (.ireturn, 1) := by decide +kernel
theorem dX9_hear_22 : decode cX9_hear 22 = .ok (.aload_n 0, 1) := by decide +kernel
theorem dX9_hear_23 : decode cX9_hear 23 = .ok (.invokevirtual 86, 3) := by decide +kernel
theorem dX9_hear_26 : decode cX9_hear 26 = .ok (.aload_n 0, 1) := by decide +kernel
theorem dX9_hear_27 : decode cX9_hear 27 = .ok (.getfield 19, 3) := by decide +kernel
theorem dX9_hear_30 : decode cX9_hear 30 = .ok (.getfield 89, 3) := by decide +kernel
theorem dX9_hear_33 : decode cX9_hear 33 = .ok (.getfield 133, 3) := by decide +kernel
theorem dX9_hear_36 : decode cX9_hear 36 = .ok (.iload_n 1, 1) := by decide +kernel
theorem dX9_hear_37 : decode cX9_hear 37 = .ok (.iload_n 2, 1) := by decide +kernel
theorem dX9_hear_38 : decode cX9_hear 38 = .ok (.iastore, 1) := by decide +kernel
theorem dX9_hear_39 : decode cX9_hear 39 = .ok (.iconst 1, 1) := by decide +kernel
theorem dX9_hear_40 : decode cX9_hear 40 = .ok (.ireturn, 1) := by decide +kernel
theorem dX9_send_0 : decode cX9_send 0 = .ok (.iload_n 1, 1) := by decide +kernel
theorem dX9_send_1 : decode cX9_send 1 = .ok (.invokestatic 137, 3) := by decide +kernel
theorem dX9_send_4 : decode cX9_send 4 = .ok (.ifCond .eq 10, 3) := by decide +kernel
theorem dX9_send_7 : decode cX9_send 7 = .ok (.iload_n 2, 1) := by decide +kernel
theorem dX9_send_8 : decode cX9_send 8 = .ok (.invokestatic 140, 3) := by decide +kernel
theorem dX9_send_11 : decode cX9_send 11 = .ok (.ifCond .ne 5, 3) := by decide +kernel
theorem dX9_send_14 : decode cX9_send 14 = .ok (.iconst (-1), 1) := by decide +kernel
theorem dX9_send_15 : decode cX9_send 15 = .ok (.ireturn, 1) := by decide +kernel
theorem dX9_send_16 : decode cX9_send 16 = .ok (.aload_n 0, 1) := by decide +kernel
theorem dX9_send_17 : decode cX9_send 17 = .ok (.invokevirtual 86, 3) := by decide +kernel
theorem dX9_send_20 : decode cX9_send 20 = .ok (.aload_n 0, 1) := by decide +kernel
theorem dX9_send_21 : decode cX9_send 21 = .ok (.getfield 19, 3) := by decide +kernel
theorem dX9_send_24 : decode cX9_send 24 = .ok (.getfield 89, 3) := by decide +kernel
theorem dX9_send_27 : decode cX9_send 27 = .ok (.iload_n 1, 1) := by decide +kernel
theorem dX9_send_28 : decode cX9_send 28 = .ok (.iload_n 2, 1) := by decide +kernel
theorem dX9_send_29 : decode cX9_send 29 = .ok (.invokevirtual 143, 3) := by decide +kernel
theorem dX9_send_32 : decode cX9_send 32 = .ok (.ireturn, 1) := by decide +kernel
theorem dX9_begin_0 : decode cX9_begin 0 = .ok (.iload_n 1, 1) := by decide +kernel
theorem dX9_begin_1 : decode cX9_begin 1 = .ok (.ifCond .eq 10, 3) := by decide +kernel
theorem dX9_begin_4 : decode cX9_begin 4 = .ok (.iload_n 1, 1) := by decide +kernel
theorem dX9_begin_5 : decode cX9_begin 5 = .ok (.iconst 1, 1) := by decide +kernel
theorem dX9_begin_6 : decode cX9_begin 6 = .ok (.if_icmp .eq 5, 3) := by decide +kernel
theorem dX9_begin_9 : decode cX9_begin 9 = .ok (.iconst (-1), 1) := by decide +kernel
theorem dX9_begin_10 : decode cX9_begin 10 = .ok (.ireturn, 1) := by decide +kernel
theorem dX9_begin_11 : decode cX9_begin 11 = .ok (.aload_n 0, 1) := by decide +kernel
theorem dX9_begin_12 : decode cX9_begin 12 = .ok (.invokevirtual 86, 3) := by decide +kernel
theorem dX9_begin_15 : decode cX9_begin 15 = .ok (.aload_n 0, 1) := by decide +kernel
theorem dX9_begin_16 : decode cX9_begin 16 = .ok (.getfield 19, 3) := by decide +kernel
theorem dX9_begin_19 : decode cX9_begin 19 = .ok (.getfield 89, 3) := by decide +kernel
theorem dX9_begin_22 : decode cX9_begin 22 = .ok (.iload_n 1, 1) := by decide +kernel
theorem dX9_begin_23 : decode cX9_begin 23 = .ok (.invokevirtual 147, 3) := by decide +kernel
theorem dX9_begin_26 : decode cX9_begin 26 = .ok (.aload_n 0, 1) := by decide +kernel
theorem dX9_begin_27 : decode cX9_begin 27 = .ok (.getfield 19, 3) := by decide +kernel
theorem dX9_begin_30 : decode cX9_begin 30 = .ok (.getfield 89, 3) := by decide +kernel
theorem dX9_begin_33 : decode cX9_begin 33 = .ok (.getfield 150, 3) := by decide +kernel
theorem dX9_begin_36 : decode cX9_begin 36 = .ok (.ireturn, 1) := by decide +kernel
theorem dX9_order_0 : decode cX9_order 0 = .ok (.aload_n 0, 1) := by decide +kernel
theorem dX9_order_1 : decode cX9_order 1 = .ok (.iload_n 1, 1) := by decide +kernel
theorem dX9_order_2 : decode cX9_order 2 = .ok (.invokevirtual 153, 3) := by decide +kernel
theorem dX9_order_5 : decode cX9_order 5 = .ok (.ifCond .ne 5, 3) := by decide +kernel
theorem dX9_order_8 : decode cX9_order 8 = .ok (.iconst 0, 1) := by decide +kernel
theorem dX9_order_9 : decode cX9_order 9 = .ok (.ireturn, 1) := by decide +kernel
theorem dX9_order_10 : decode cX9_order 10 = .ok (.aload_n 0, 1) := by decide +kernel
theorem dX9_order_11 : decode cX9_order 11 = .ok (.invokevirtual 86, 3) := by decide +kernel
theorem dX9_order_14 : decode cX9_order 14 = .ok (.aload_n 0, 1) := by decide +kernel
theorem dX9_order_15 : decode cX9_order 15 = .ok (.getfield 19, 3) := by decide +kernel
theorem dX9_order_18 : decode cX9_order 18 = .ok (.getfield 89, 3) := by decide +kernel
theorem dX9_order_21 : decode cX9_order 21 = .ok (.getfield 98, 3) := by decide +kernel
theorem dX9_order_24 : decode cX9_order 24 = .ok (.getfield 126, 3) := by decide +kernel
theorem dX9_order_27 : decode cX9_order 27 = .ok (.iload_n 1, 1) := by decide +kernel
theorem dX9_order_28 : decode cX9_order 28 = .ok (.aload_n 0, 1) := by decide +kernel
theorem dX9_order_29 : decode cX9_order 29 = .ok (.getfield 19, 3) := by decide +kernel
theorem dX9_order_32 : decode cX9_order 32 = .ok (.getfield 89, 3) := by decide +kernel
theorem dX9_order_35 : decode cX9_order 35 = .ok (.getfield 156, 3) := by decide +kernel
theorem dX9_order_38 : decode cX9_order 38 = .ok (.invokestatic 159, 3) := by decide +kernel
theorem dX9_order_41 : decode cX9_order 41 = .ok (.aload_n 0, 1) := by decide +kernel
theorem dX9_order_42 : decode cX9_order 42 = .ok (.getfield 19, 3) := by decide +kernel
theorem dX9_order_45 : decode cX9_order 45 = .ok (.getfield 89, 3) := by decide +kernel
theorem dX9_order_48 : decode cX9_order 48 = .ok (.aload_n 0, 1) := by decide +kernel
theorem dX9_order_49 : decode cX9_order 49 = .ok (.getfield 19, 3) := by decide +kernel
theorem dX9_order_52 : decode cX9_order 52 = .ok (.getfield 89, 3) := by decide +kernel
theorem dX9_order_55 : decode cX9_order 55 = .ok (.getfield 163, 3) := by decide +kernel
theorem dX9_order_58 : decode cX9_order 58 = .ok (.invokevirtual 147, 3) := by decide +kernel
theorem dX9_order_61 : decode cX9_order 61 = .ok (.iconst 1, 1) := by decide +kernel
theorem dX9_order_62 : decode cX9_order 62 = .ok (.ireturn, 1) := by decide +kernel
theorem dX9_step_0 : decode cX9_step 0 = .ok (.iload_n 1, 1) := by decide +kernel
theorem dX9_step_1 : decode cX9_step 1 = .ok (.invokestatic 166, 3) := by decide +kernel
theorem dX9_step_4 : decode cX9_step 4 = .ok (.ifCond .eq 16, 3) := by decide +kernel
theorem dX9_step_7 : decode cX9_step 7 = .ok (.aload_n 0, 1) := by decide +kernel
theorem dX9_step_8 : decode cX9_step 8 = .ok (.getfield 19, 3) := by decide +kernel
theorem dX9_step_11 : decode cX9_step 11 = .ok (.getfield 89, 3) := by decide +kernel
theorem dX9_step_14 : decode cX9_step 14 = .ok (.getfield 150, 3) := by decide +kernel
theorem dX9_step_17 : decode cX9_step 17 = .ok (.ifCond .eq 5, 3) := by decide +kernel
theorem dX9_step_20 : decode cX9_step 20 = .ok (.iconst (-1), 1) := by decide +kernel
theorem dX9_step_21 : decode cX9_step 21 = .ok (.ireturn, 1) := by decide +kernel
theorem dX9_step_22 : decode cX9_step 22 = .ok (.aload_n 0, 1) := by decide +kernel
theorem dX9_step_23 : decode cX9_step 23 = .ok (.invokevirtual 86, 3) := by decide +kernel
theorem dX9_step_26 : decode cX9_step 26 = .ok (.aload_n 0, 1) := by decide +kernel
theorem dX9_step_27 : decode cX9_step 27 = .ok (.getfield 19, 3) := by decide +kernel
theorem dX9_step_30 : decode cX9_step 30 = .ok (.getfield 89, 3) := by decide +kernel
theorem dX9_step_33 : decode cX9_step 33 = .ok (.iload_n 1, 1) := by decide +kernel
theorem dX9_step_34 : decode cX9_step 34 = .ok (.invokevirtual 169, 3) := by decide +kernel
theorem dX9_step_37 : decode cX9_step 37 = .ok (.ireturn, 1) := by decide +kernel
theorem dX9_undo_0 : decode cX9_undo 0 = .ok (.aload_n 0, 1) := by decide +kernel
theorem dX9_undo_1 : decode cX9_undo 1 = .ok (.getfield 19, 3) := by decide +kernel
theorem dX9_undo_4 : decode cX9_undo 4 = .ok (.getfield 173, 3) := by decide +kernel
theorem dX9_undo_7 : decode cX9_undo 7 = .ok (.aload_n 0, 1) := by decide +kernel
theorem dX9_undo_8 : decode cX9_undo 8 = .ok (.getfield 19, 3) := by decide +kernel
theorem dX9_undo_11 : decode cX9_undo 11 = .ok (.getfield 89, 3) := by decide +kernel
theorem dX9_undo_14 : decode cX9_undo 14 = .ok (.invokevirtual 177, 3) := by decide +kernel
theorem dX9_undo_17 : decode cX9_undo 17 = .ok (.ifCond .eq 16, 3) := by decide +kernel
theorem dX9_undo_20 : decode cX9_undo 20 = .ok (.aload_n 0, 1) := by decide +kernel
theorem dX9_undo_21 : decode cX9_undo 21 = .ok (.getfield 19, 3) := by decide +kernel
theorem dX9_undo_24 : decode cX9_undo 24 = .ok (.getfield 173, 3) := by decide +kernel
theorem dX9_undo_27 : decode cX9_undo 27 = .ok (.getfield 183, 3) := by decide +kernel
theorem dX9_undo_30 : decode cX9_undo 30 = .ok (.goto 4, 3) := by decide +kernel
theorem dX9_undo_33 : decode cX9_undo 33 = .ok (.iconst (-1), 1) := by decide +kernel
theorem dX9_undo_34 : decode cX9_undo 34 = .ok (.ireturn, 1) := by decide +kernel
theorem dX9_tell_0 : decode cX9_tell 0 = .ok (.iload_n 1, 1) := by decide +kernel
theorem dX9_tell_1 : decode cX9_tell 1 = .ok (.ifCond .lt 10, 3) := by decide +kernel
theorem dX9_tell_4 : decode cX9_tell 4 = .ok (.iload_n 1, 1) := by decide +kernel
theorem dX9_tell_5 : decode cX9_tell 5 = .ok (.sipush 30070, 3) := by decide +kernel
theorem dX9_tell_8 : decode cX9_tell 8 = .ok (.if_icmp .le 5, 3) := by decide +kernel
theorem dX9_tell_11 : decode cX9_tell 11 = .ok (.iconst 0, 1) := by decide +kernel
theorem dX9_tell_12 : decode cX9_tell 12 = .ok (.ireturn, 1) := by decide +kernel
theorem dX9_tell_13 : decode cX9_tell 13 = .ok (.aload_n 0, 1) := by decide +kernel
theorem dX9_tell_14 : decode cX9_tell 14 = .ok (.getfield 19, 3) := by decide +kernel
theorem dX9_tell_17 : decode cX9_tell 17 = .ok (.getfield 89, 3) := by decide +kernel
theorem dX9_tell_20 : decode cX9_tell 20 = .ok (.iload_n 1, 1) := by decide +kernel
theorem dX9_tell_21 : decode cX9_tell 21 = .ok (.putfield 184, 3) := by decide +kernel
theorem dX9_tell_24 : decode cX9_tell 24 = .ok (.iconst 1, 1) := by decide +kernel
theorem dX9_tell_25 : decode cX9_tell 25 = .ok (.ireturn, 1) := by decide +kernel
theorem dX9_is_0 : decode cX9_is 0 = .ok (.aload_n 0, 1) := by decide +kernel
theorem dX9_is_1 : decode cX9_is 1 = .ok (.getfield 19, 3) := by decide +kernel
theorem dX9_is_4 : decode cX9_is 4 = .ok (.getfield 89, 3) := by decide +kernel
theorem dX9_is_7 : decode cX9_is 7 = .ok (.astore_n 2, 1) := by decide +kernel
theorem dX9_is_8 : decode cX9_is 8 = .ok (.iload_n 1, 1) := by decide +kernel
theorem dX9_is_9 : decode cX9_is 9 = .ok (.tableswitch 129 0 10 #[59, 67, 75, 83, 91, 99, 104, 109, 114, 119, 124], 59) := by decide +kernel
theorem dX9_is_68 : decode cX9_is 68 = .ok (.aload_n 2, 1) := by decide +kernel
theorem dX9_is_69 : decode cX9_is 69 = .ok (.getfield 98, 3) := by decide +kernel
theorem dX9_is_72 : decode cX9_is 72 = .ok (.getfield 187, 3) := by decide +kernel
theorem dX9_is_75 : decode cX9_is 75 = .ok (.ireturn, 1) := by decide +kernel
theorem dX9_is_76 : decode cX9_is 76 = .ok (.aload_n 2, 1) := by decide +kernel
theorem dX9_is_77 : decode cX9_is 77 = .ok (.getfield 98, 3) := by decide +kernel
theorem dX9_is_80 : decode cX9_is 80 = .ok (.getfield 126, 3) := by decide +kernel
theorem dX9_is_83 : decode cX9_is 83 = .ok (.ireturn, 1) := by decide +kernel
theorem dX9_is_84 : decode cX9_is 84 = .ok (.aload_n 2, 1) := by decide +kernel
theorem dX9_is_85 : decode cX9_is 85 = .ok (.getfield 98, 3) := by decide +kernel
theorem dX9_is_88 : decode cX9_is 88 = .ok (.getfield 119, 3) := by decide +kernel
theorem dX9_is_91 : decode cX9_is 91 = .ok (.ireturn, 1) := by decide +kernel
theorem dX9_is_92 : decode cX9_is 92 = .ok (.aload_n 2, 1) := by decide +kernel
theorem dX9_is_93 : decode cX9_is 93 = .ok (.getfield 98, 3) := by decide +kernel
theorem dX9_is_96 : decode cX9_is 96 = .ok (.getfield 190, 3) := by decide +kernel
theorem dX9_is_99 : decode cX9_is 99 = .ok (.ireturn, 1) := by decide +kernel
theorem dX9_is_100 : decode cX9_is 100 = .ok (.aload_n 2, 1) := by decide +kernel
theorem dX9_is_101 : decode cX9_is 101 = .ok (.getfield 98, 3) := by decide +kernel
theorem dX9_is_104 : decode cX9_is 104 = .ok (.getfield 193, 3) := by decide +kernel
theorem dX9_is_107 : decode cX9_is 107 = .ok (.ireturn, 1) := by decide +kernel
theorem dX9_is_108 : decode cX9_is 108 = .ok (.aload_n 2, 1) := by decide +kernel
theorem dX9_is_109 : decode cX9_is 109 = .ok (.getfield 163, 3) := by decide +kernel
theorem dX9_is_112 : decode cX9_is 112 = .ok (.ireturn, 1) := by decide +kernel
theorem dX9_is_113 : decode cX9_is 113 = .ok (.aload_n 2, 1) := by decide +kernel
theorem dX9_is_114 : decode cX9_is 114 = .ok (.getfield 150, 3) := by decide +kernel
theorem dX9_is_117 : decode cX9_is 117 = .ok (.ireturn, 1) := by decide +kernel
theorem dX9_is_118 : decode cX9_is 118 = .ok (.aload_n 2, 1) := by decide +kernel
theorem dX9_is_119 : decode cX9_is 119 = .ok (.getfield 196, 3) := by decide +kernel
theorem dX9_is_122 : decode cX9_is 122 = .ok (.ireturn, 1) := by decide +kernel
theorem dX9_is_123 : decode cX9_is 123 = .ok (.aload_n 2, 1) := by decide +kernel
theorem dX9_is_124 : decode cX9_is 124 = .ok (.getfield 199, 3) := by decide +kernel
theorem dX9_is_127 : decode cX9_is 127 = .ok (.ireturn, 1) := by decide +kernel
theorem dX9_is_128 : decode cX9_is 128 = .ok (.aload_n 2, 1) := by decide +kernel
theorem dX9_is_129 : decode cX9_is 129 = .ok (.getfield 184, 3) := by decide +kernel
theorem dX9_is_132 : decode cX9_is 132 = .ok (.ireturn, 1) := by decide +kernel
theorem dX9_is_133 : decode cX9_is 133 = .ok (.aload_n 2, 1) := by decide +kernel
theorem dX9_is_134 : decode cX9_is 134 = .ok (.getfield 202, 3) := by decide +kernel
theorem dX9_is_137 : decode cX9_is 137 = .ok (.ireturn, 1) := by decide +kernel
theorem dX9_is_138 : decode cX9_is 138 = .ok (.iconst (-1), 1) := by decide +kernel
theorem dX9_is_139 : decode cX9_is 139 = .ok (.ireturn, 1) := by decide +kernel
theorem dX9_shift_0 : decode cX9_shift 0 = .ok (.aload_n 0, 1) := by decide +kernel
theorem dX9_shift_1 : decode cX9_shift 1 = .ok (.getfield 19, 3) := by decide +kernel
theorem dX9_shift_4 : decode cX9_shift 4 = .ok (.getfield 89, 3) := by decide +kernel
theorem dX9_shift_7 : decode cX9_shift 7 = .ok (.getfield 98, 3) := by decide +kernel
theorem dX9_shift_10 : decode cX9_shift 10 = .ok (.astore_n 3, 1) := by decide +kernel
theorem dX9_shift_11 : decode cX9_shift 11 = .ok (.iload_n 1, 1) := by decide +kernel
theorem dX9_shift_12 : decode cX9_shift 12 = .ok (.ifCond .lt 23, 3) := by decide +kernel
theorem dX9_shift_15 : decode cX9_shift 15 = .ok (.iload_n 1, 1) := by decide +kernel
theorem dX9_shift_16 : decode cX9_shift 16 = .ok (.aload_n 3, 1) := by decide +kernel
theorem dX9_shift_17 : decode cX9_shift 17 = .ok (.getfield 126, 3) := by decide +kernel
theorem dX9_shift_20 : decode cX9_shift 20 = .ok (.if_icmp .ge 15, 3) := by decide +kernel
theorem dX9_shift_23 : decode cX9_shift 23 = .ok (.iload_n 2, 1) := by decide +kernel
theorem dX9_shift_24 : decode cX9_shift 24 = .ok (.ifCond .lt 11, 3) := by decide +kernel
theorem dX9_shift_27 : decode cX9_shift 27 = .ok (.iload_n 2, 1) := by decide +kernel
theorem dX9_shift_28 : decode cX9_shift 28 = .ok (.aload_n 3, 1) := by decide +kernel
theorem dX9_shift_29 : decode cX9_shift 29 = .ok (.getfield 119, 3) := by decide +kernel
theorem dX9_shift_32 : decode cX9_shift 32 = .ok (.if_icmp .lt 6, 3) := by decide +kernel
theorem dX9_shift_35 : decode cX9_shift 35 = .ok (.bipush (-2), 2) := by decide +kernel
theorem dX9_shift_37 : decode cX9_shift 37 = .ok (.ireturn, 1) := by decide +kernel
theorem dX9_shift_38 : decode cX9_shift 38 = .ok (.aload_n 3, 1) := by decide +kernel
theorem dX9_shift_39 : decode cX9_shift 39 = .ok (.getfield 205, 3) := by decide +kernel
theorem dX9_shift_42 : decode cX9_shift 42 = .ok (.iload_n 1, 1) := by decide +kernel
theorem dX9_shift_43 : decode cX9_shift 43 = .ok (.bipush 8, 2) := by decide +kernel
theorem dX9_shift_45 : decode cX9_shift 45 = .ok (.imul, 1) := by decide +kernel
theorem dX9_shift_46 : decode cX9_shift 46 = .ok (.iload_n 2, 1) := by decide +kernel
theorem dX9_shift_47 : decode cX9_shift 47 = .ok (.iadd, 1) := by decide +kernel
theorem dX9_shift_48 : decode cX9_shift 48 = .ok (.iaload, 1) := by decide +kernel
theorem dX9_shift_49 : decode cX9_shift 49 = .ok (.ireturn, 1) := by decide +kernel
theorem dX9_layer_0 : decode cX9_layer 0 = .ok (.iload_n 1, 1) := by decide +kernel
theorem dX9_layer_1 : decode cX9_layer 1 = .ok (.ifCond .lt 20, 3) := by decide +kernel
theorem dX9_layer_4 : decode cX9_layer 4 = .ok (.iload_n 1, 1) := by decide +kernel
theorem dX9_layer_5 : decode cX9_layer 5 = .ok (.aload_n 0, 1) := by decide +kernel
theorem dX9_layer_6 : decode cX9_layer 6 = .ok (.getfield 19, 3) := by decide +kernel
theorem dX9_layer_9 : decode cX9_layer 9 = .ok (.getfield 89, 3) := by decide +kernel
theorem dX9_layer_12 : decode cX9_layer 12 = .ok (.getfield 98, 3) := by decide +kernel
theorem dX9_layer_15 : decode cX9_layer 15 = .ok (.getfield 126, 3) := by decide +kernel
theorem dX9_layer_18 : decode cX9_layer 18 = .ok (.if_icmp .lt 7, 3) := by decide +kernel
theorem dX9_layer_21 : decode cX9_layer 21 = .ok (.iconst (-1), 1) := by decide +kernel
theorem dX9_layer_22 : decode cX9_layer 22 = .ok (.goto 15, 3) := by decide +kernel
theorem dX9_layer_25 : decode cX9_layer 25 = .ok (.aload_n 0, 1) := by decide +kernel
theorem dX9_layer_26 : decode cX9_layer 26 = .ok (.getfield 19, 3) := by decide +kernel
theorem dX9_layer_29 : decode cX9_layer 29 = .ok (.getfield 89, 3) := by decide +kernel
theorem dX9_layer_32 : decode cX9_layer 32 = .ok (.getfield 156, 3) := by decide +kernel
theorem dX9_layer_35 : decode cX9_layer 35 = .ok (.iload_n 1, 1) := by decide +kernel
theorem dX9_layer_36 : decode cX9_layer 36 = .ok (.iaload, 1) := by decide +kernel
theorem dX9_layer_37 : decode cX9_layer 37 = .ok (.ireturn, 1) := by decide +kernel
theorem dX9_has_0 : decode cX9_has 0 = .ok (.aload_n 0, 1) := by decide +kernel
theorem dX9_has_1 : decode cX9_has 1 = .ok (.iload_n 1, 1) := by decide +kernel
theorem dX9_has_2 : decode cX9_has 2 = .ok (.invokevirtual 208, 3) := by decide +kernel
theorem dX9_has_5 : decode cX9_has 5 = .ok (.ifCond .ne 5, 3) := by decide +kernel
theorem dX9_has_8 : decode cX9_has 8 = .ok (.iconst (-1), 1) := by decide +kernel
theorem dX9_has_9 : decode cX9_has 9 = .ok (.ireturn, 1) := by decide +kernel
theorem dX9_has_10 : decode cX9_has 10 = .ok (.aload_n 0, 1) := by decide +kernel
theorem dX9_has_11 : decode cX9_has 11 = .ok (.getfield 19, 3) := by decide +kernel
theorem dX9_has_14 : decode cX9_has 14 = .ok (.getfield 89, 3) := by decide +kernel
theorem dX9_has_17 : decode cX9_has 17 = .ok (.getfield 98, 3) := by decide +kernel
theorem dX9_has_20 : decode cX9_has 20 = .ok (.getfield 211, 3) := by decide +kernel
theorem dX9_has_23 : decode cX9_has 23 = .ok (.iload_n 1, 1) := by decide +kernel
theorem dX9_has_24 : decode cX9_has 24 = .ok (.laload, 1) := by decide +kernel
theorem dX9_has_25 : decode cX9_has 25 = .ok (.lstore_n 3, 1) := by decide +kernel
theorem dX9_has_26 : decode cX9_has 26 = .ok (.iload_n 2, 1) := by decide +kernel
theorem dX9_has_27 : decode cX9_has 27 = .ok (.iconst (-1), 1) := by decide +kernel
theorem dX9_has_28 : decode cX9_has 28 = .ok (.if_icmp .ne 10, 3) := by decide +kernel
theorem dX9_has_31 : decode cX9_has 31 = .ok (.lload_n 3, 1) := by decide +kernel
theorem dX9_has_32 : decode cX9_has 32 = .ok (.invokestatic 113, 3) := by decide +kernel
theorem dX9_has_35 : decode cX9_has 35 = .ok (.goto 8, 3) := by decide +kernel
theorem dX9_has_38 : decode cX9_has 38 = .ok (.lload_n 3, 1) := by decide +kernel
theorem dX9_has_39 : decode cX9_has 39 = .ok (.iload_n 2, 1) := by decide +kernel
theorem dX9_has_40 : decode cX9_has 40 = .ok (.invokestatic 215, 3) := by decide +kernel
theorem dX9_has_43 : decode cX9_has 43 = .ok (.ireturn, 1) := by decide +kernel
theorem dX9_both_0 : decode cX9_both 0 = .ok (.aload_n 0, 1) := by decide +kernel
theorem dX9_both_1 : decode cX9_both 1 = .ok (.iload_n 1, 1) := by decide +kernel
theorem dX9_both_2 : decode cX9_both 2 = .ok (.invokevirtual 208, 3) := by decide +kernel
theorem dX9_both_5 : decode cX9_both 5 = .ok (.ifCond .eq 11, 3) := by decide +kernel
theorem dX9_both_8 : decode cX9_both 8 = .ok (.aload_n 0, 1) := by decide +kernel
theorem dX9_both_9 : decode cX9_both 9 = .ok (.iload_n 2, 1) := by decide +kernel
theorem dX9_both_10 : decode cX9_both 10 = .ok (.invokevirtual 208, 3) := by decide +kernel
theorem dX9_both_13 : decode cX9_both 13 = .ok (.ifCond .ne 5, 3) := by decide +kernel
theorem dX9_both_16 : decode cX9_both 16 = .ok (.iconst (-1), 1) := by decide +kernel
theorem dX9_both_17 : decode cX9_both 17 = .ok (.ireturn, 1) := by decide +kernel
theorem dX9_both_18 : decode cX9_both 18 = .ok (.aload_n 0, 1) := by decide +kernel
theorem dX9_both_19 : decode cX9_both 19 = .ok (.getfield 19, 3) := by decide +kernel
theorem dX9_both_22 : decode cX9_both 22 = .ok (.getfield 89, 3) := by decide +kernel
theorem dX9_both_25 : decode cX9_both 25 = .ok (.getfield 98, 3) := by decide +kernel
theorem dX9_both_28 : decode cX9_both 28 = .ok (.astore_n 3, 1) := by decide +kernel
theorem dX9_both_29 : decode cX9_both 29 = .ok (.aload_n 3, 1) := by decide +kernel
theorem dX9_both_30 : decode cX9_both 30 = .ok (.getfield 211, 3) := by decide +kernel
theorem dX9_both_33 : decode cX9_both 33 = .ok (.iload_n 1, 1) := by decide +kernel
theorem dX9_both_34 : decode cX9_both 34 = .ok (.laload, 1) := by decide +kernel
theorem dX9_both_35 : decode cX9_both 35 = .ok (.aload_n 3, 1) := by decide +kernel
theorem dX9_both_36 : decode cX9_both 36 = .ok (.getfield 211, 3) := by decide +kernel
theorem dX9_both_39 : decode cX9_both 39 = .ok (.iload_n 2, 1) := by decide +kernel
theorem dX9_both_40 : decode cX9_both 40 = .ok (.laload, 1) := by decide +kernel
theorem dX9_both_41 : decode cX9_both 41 = .ok (.land, 1) := by decide +kernel
theorem dX9_both_42 : decode cX9_both 42 = .ok (.invokestatic 113, 3) := by decide +kernel
theorem dX9_both_45 : decode cX9_both 45 = .ok (.ireturn, 1) := by decide +kernel
theorem dX9_loose_0 : decode cX9_loose 0 = .ok (.aload_n 0, 1) := by decide +kernel
theorem dX9_loose_1 : decode cX9_loose 1 = .ok (.getfield 19, 3) := by decide +kernel
theorem dX9_loose_4 : decode cX9_loose 4 = .ok (.getfield 89, 3) := by decide +kernel
theorem dX9_loose_7 : decode cX9_loose 7 = .ok (.getfield 98, 3) := by decide +kernel
theorem dX9_loose_10 : decode cX9_loose 10 = .ok (.astore_n 1, 1) := by decide +kernel
theorem dX9_loose_11 : decode cX9_loose 11 = .ok (.lconst 0, 1) := by decide +kernel
theorem dX9_loose_12 : decode cX9_loose 12 = .ok (.lstore_n 2, 1) := by decide +kernel
theorem dX9_loose_13 : decode cX9_loose 13 = .ok (.iconst 0, 1) := by decide +kernel
theorem dX9_loose_14 : decode cX9_loose 14 = .ok (.istore 4, 2) := by decide +kernel
theorem dX9_loose_16 : decode cX9_loose 16 = .ok (.iload 4, 2) := by decide +kernel
theorem dX9_loose_18 : decode cX9_loose 18 = .ok (.aload_n 1, 1) := by decide +kernel
theorem dX9_loose_19 : decode cX9_loose 19 = .ok (.getfield 95, 3) := by decide +kernel
theorem dX9_loose_22 : decode cX9_loose 22 = .ok (.if_icmp .ge 26, 3) := by decide +kernel
theorem dX9_loose_25 : decode cX9_loose 25 = .ok (.aload_n 1, 1) := by decide +kernel
theorem dX9_loose_26 : decode cX9_loose 26 = .ok (.getfield 219, 3) := by decide +kernel
theorem dX9_loose_29 : decode cX9_loose 29 = .ok (.iload 4, 2) := by decide +kernel
theorem dX9_loose_31 : decode cX9_loose 31 = .ok (.iaload, 1) := by decide +kernel
theorem dX9_loose_32 : decode cX9_loose 32 = .ok (.ifCond .ne 10, 3) := by decide +kernel
theorem dX9_loose_35 : decode cX9_loose 35 = .ok (.lload_n 2, 1) := by decide +kernel
theorem dX9_loose_36 : decode cX9_loose 36 = .ok (.lconst 1, 1) := by decide +kernel
theorem dX9_loose_37 : decode cX9_loose 37 = .ok (.iload 4, 2) := by decide +kernel
theorem dX9_loose_39 : decode cX9_loose 39 = .ok (.lshl, 1) := by decide +kernel
theorem dX9_loose_40 : decode cX9_loose 40 = .ok (.lor, 1) := by decide +kernel
theorem dX9_loose_41 : decode cX9_loose 41 = .ok (.lstore_n 2, 1) := by decide +kernel
theorem dX9_loose_42 : decode cX9_loose 42 = .ok (.iinc 4 1, 3) := by decide +kernel
theorem dX9_loose_45 : decode cX9_loose 45 = .ok (.goto (-29), 3) := by decide +kernel
theorem dX9_loose_48 : decode cX9_loose 48 = .ok (.lload_n 2, 1) := by decide +kernel
theorem dX9_loose_49 : decode cX9_loose 49 = .ok (.lreturn, 1) := by decide +kernel
theorem dX9_degree_0 : decode cX9_degree 0 = .ok (.aload_n 0, 1) := by decide +kernel
theorem dX9_degree_1 : decode cX9_degree 1 = .ok (.iload_n 1, 1) := by decide +kernel
theorem dX9_degree_2 : decode cX9_degree 2 = .ok (.invokevirtual 129, 3) := by decide +kernel
theorem dX9_degree_5 : decode cX9_degree 5 = .ok (.ifCond .eq 24, 3) := by decide +kernel
theorem dX9_degree_8 : decode cX9_degree 8 = .ok (.aload_n 0, 1) := by decide +kernel
theorem dX9_degree_9 : decode cX9_degree 9 = .ok (.getfield 19, 3) := by decide +kernel
theorem dX9_degree_12 : decode cX9_degree 12 = .ok (.getfield 89, 3) := by decide +kernel
theorem dX9_degree_15 : decode cX9_degree 15 = .ok (.getfield 98, 3) := by decide +kernel
theorem dX9_degree_18 : decode cX9_degree 18 = .ok (.getfield 219, 3) := by decide +kernel
theorem dX9_degree_21 : decode cX9_degree 21 = .ok (.iload_n 1, 1) := by decide +kernel
theorem dX9_degree_22 : decode cX9_degree 22 = .ok (.iaload, 1) := by decide +kernel
theorem dX9_degree_23 : decode cX9_degree 23 = .ok (.invokestatic 222, 3) := by decide +kernel
theorem dX9_degree_26 : decode cX9_degree 26 = .ok (.goto 4, 3) := by decide +kernel
theorem dX9_degree_29 : decode cX9_degree 29 = .ok (.iconst (-1), 1) := by decide +kernel
theorem dX9_degree_30 : decode cX9_degree 30 = .ok (.ireturn, 1) := by decide +kernel
theorem dX9_bit_0 : decode cX9_bit 0 = .ok (.aload_n 0, 1) := by decide +kernel
theorem dX9_bit_1 : decode cX9_bit 1 = .ok (.iload_n 1, 1) := by decide +kernel
theorem dX9_bit_2 : decode cX9_bit 2 = .ok (.invokevirtual 129, 3) := by decide +kernel
theorem dX9_bit_5 : decode cX9_bit 5 = .ok (.ifCond .ne 6, 3) := by decide +kernel
theorem dX9_bit_8 : decode cX9_bit 8 = .ok (.bipush (-100), 2) := by decide +kernel
theorem dX9_bit_10 : decode cX9_bit 10 = .ok (.ireturn, 1) := by decide +kernel
theorem dX9_bit_11 : decode cX9_bit 11 = .ok (.aload_n 0, 1) := by decide +kernel
theorem dX9_bit_12 : decode cX9_bit 12 = .ok (.getfield 19, 3) := by decide +kernel
theorem dX9_bit_15 : decode cX9_bit 15 = .ok (.getfield 89, 3) := by decide +kernel
theorem dX9_bit_18 : decode cX9_bit 18 = .ok (.astore_n 3, 1) := by decide +kernel
theorem dX9_bit_19 : decode cX9_bit 19 = .ok (.iload_n 2, 1) := by decide +kernel
theorem dX9_bit_20 : decode cX9_bit 20 = .ok (.tableswitch 83 0 4 #[36, 43, 50, 60, 70], 36) := by decide +kernel
theorem dX9_bit_56 : decode cX9_bit 56 = .ok (.aload_n 3, 1) := by decide +kernel
theorem dX9_bit_57 : decode cX9_bit 57 = .ok (.getfield 133, 3) := by decide +kernel
theorem dX9_bit_60 : decode cX9_bit 60 = .ok (.iload_n 1, 1) := by decide +kernel
theorem dX9_bit_61 : decode cX9_bit 61 = .ok (.iaload, 1) := by decide +kernel
theorem dX9_bit_62 : decode cX9_bit 62 = .ok (.ireturn, 1) := by decide +kernel
theorem dX9_bit_63 : decode cX9_bit 63 = .ok (.aload_n 3, 1) := by decide +kernel
theorem dX9_bit_64 : decode cX9_bit 64 = .ok (.getfield 226, 3) := by decide +kernel
theorem dX9_bit_67 : decode cX9_bit 67 = .ok (.iload_n 1, 1) := by decide +kernel
theorem dX9_bit_68 : decode cX9_bit 68 = .ok (.iaload, 1) := by decide +kernel
theorem dX9_bit_69 : decode cX9_bit 69 = .ok (.ireturn, 1) := by decide +kernel
theorem dX9_bit_70 : decode cX9_bit 70 = .ok (.aload_n 3, 1) := by decide +kernel
theorem dX9_bit_71 : decode cX9_bit 71 = .ok (.getfield 229, 3) := by decide +kernel
theorem dX9_bit_74 : decode cX9_bit 74 = .ok (.iload_n 1, 1) := by decide +kernel
theorem dX9_bit_75 : decode cX9_bit 75 = .ok (.lshr, 1) := by decide +kernel
theorem dX9_bit_76 : decode cX9_bit 76 = .ok (.lconst 1, 1) := by decide +kernel
theorem dX9_bit_77 : decode cX9_bit 77 = .ok (.land, 1) := by decide +kernel
theorem dX9_bit_78 : decode cX9_bit 78 = .ok (.l2i, 1) := by decide +kernel
theorem dX9_bit_79 : decode cX9_bit 79 = .ok (.ireturn, 1) := by decide +kernel
theorem dX9_bit_80 : decode cX9_bit 80 = .ok (.aload_n 3, 1) := by decide +kernel
theorem dX9_bit_81 : decode cX9_bit 81 = .ok (.getfield 109, 3) := by decide +kernel
theorem dX9_bit_84 : decode cX9_bit 84 = .ok (.iload_n 1, 1) := by decide +kernel
theorem dX9_bit_85 : decode cX9_bit 85 = .ok (.lshr, 1) := by decide +kernel
theorem dX9_bit_86 : decode cX9_bit 86 = .ok (.lconst 1, 1) := by decide +kernel
theorem dX9_bit_87 : decode cX9_bit 87 = .ok (.land, 1) := by decide +kernel
theorem dX9_bit_88 : decode cX9_bit 88 = .ok (.l2i, 1) := by decide +kernel
theorem dX9_bit_89 : decode cX9_bit 89 = .ok (.ireturn, 1) := by decide +kernel
theorem dX9_bit_90 : decode cX9_bit 90 = .ok (.aload_n 3, 1) := by decide +kernel
theorem dX9_bit_91 : decode cX9_bit 91 = .ok (.getfield 98, 3) := by decide +kernel
theorem dX9_bit_94 : decode cX9_bit 94 = .ok (.getfield 232, 3) := by decide +kernel
theorem dX9_bit_97 : decode cX9_bit 97 = .ok (.iload_n 1, 1) := by decide +kernel
theorem dX9_bit_98 : decode cX9_bit 98 = .ok (.lshr, 1) := by decide +kernel
theorem dX9_bit_99 : decode cX9_bit 99 = .ok (.lconst 1, 1) := by decide +kernel
theorem dX9_bit_100 : decode cX9_bit 100 = .ok (.land, 1) := by decide +kernel
theorem dX9_bit_101 : decode cX9_bit 101 = .ok (.l2i, 1) := by decide +kernel
theorem dX9_bit_102 : decode cX9_bit 102 = .ok (.ireturn, 1) := by decide +kernel
theorem dX9_bit_103 : decode cX9_bit 103 = .ok (.bipush (-100), 2) := by decide +kernel
theorem dX9_bit_105 : decode cX9_bit 105 = .ok (.ireturn, 1) := by decide +kernel
theorem dX9_message_0 : decode cX9_message 0 = .ok (.aload_n 0, 1) := by decide +kernel
theorem dX9_message_1 : decode cX9_message 1 = .ok (.iload_n 1, 1) := by decide +kernel
theorem dX9_message_2 : decode cX9_message 2 = .ok (.invokevirtual 208, 3) := by decide +kernel
theorem dX9_message_5 : decode cX9_message 5 = .ok (.ifCond .eq 11, 3) := by decide +kernel
theorem dX9_message_8 : decode cX9_message 8 = .ok (.aload_n 0, 1) := by decide +kernel
theorem dX9_message_9 : decode cX9_message 9 = .ok (.iload_n 2, 1) := by decide +kernel
theorem dX9_message_10 : decode cX9_message 10 = .ok (.invokevirtual 129, 3) := by decide +kernel
theorem dX9_message_13 : decode cX9_message 13 = .ok (.ifCond .ne 6, 3) := by decide +kernel
theorem dX9_message_16 : decode cX9_message 16 = .ok (.bipush (-100), 2) := by decide +kernel
theorem dX9_message_18 : decode cX9_message 18 = .ok (.ireturn, 1) := by decide +kernel
theorem dX9_message_19 : decode cX9_message 19 = .ok (.aload_n 0, 1) := by decide +kernel
theorem dX9_message_20 : decode cX9_message 20 = .ok (.getfield 19, 3) := by decide +kernel
theorem dX9_message_23 : decode cX9_message 23 = .ok (.getfield 89, 3) := by decide +kernel
theorem dX9_message_26 : decode cX9_message 26 = .ok (.getfield 98, 3) := by decide +kernel
theorem dX9_message_29 : decode cX9_message 29 = .ok (.astore_n 3, 1) := by decide +kernel
theorem dX9_message_30 : decode cX9_message 30 = .ok (.iconst 0, 1) := by decide +kernel
theorem dX9_message_31 : decode cX9_message 31 = .ok (.istore 4, 2) := by decide +kernel
theorem dX9_message_33 : decode cX9_message 33 = .ok (.iload 4, 2) := by decide +kernel
theorem dX9_message_35 : decode cX9_message 35 = .ok (.aload_n 3, 1) := by decide +kernel
theorem dX9_message_36 : decode cX9_message 36 = .ok (.getfield 119, 3) := by decide +kernel
theorem dX9_message_39 : decode cX9_message 39 = .ok (.if_icmp .ge 44, 3) := by decide +kernel
theorem dX9_message_42 : decode cX9_message 42 = .ok (.aload_n 3, 1) := by decide +kernel
theorem dX9_message_43 : decode cX9_message 43 = .ok (.getfield 235, 3) := by decide +kernel
theorem dX9_message_46 : decode cX9_message 46 = .ok (.iload_n 1, 1) := by decide +kernel
theorem dX9_message_47 : decode cX9_message 47 = .ok (.bipush 8, 2) := by decide +kernel
theorem dX9_message_49 : decode cX9_message 49 = .ok (.imul, 1) := by decide +kernel
theorem dX9_message_50 : decode cX9_message 50 = .ok (.iload 4, 2) := by decide +kernel
theorem dX9_message_52 : decode cX9_message 52 = .ok (.iadd, 1) := by decide +kernel
theorem dX9_message_53 : decode cX9_message 53 = .ok (.iaload, 1) := by decide +kernel
theorem dX9_message_54 : decode cX9_message 54 = .ok (.iload_n 2, 1) := by decide +kernel
theorem dX9_message_55 : decode cX9_message 55 = .ok (.if_icmp .ne 22, 3) := by decide +kernel
theorem dX9_message_58 : decode cX9_message 58 = .ok (.aload_n 0, 1) := by decide +kernel
theorem dX9_message_59 : decode cX9_message 59 = .ok (.getfield 19, 3) := by decide +kernel
theorem dX9_message_62 : decode cX9_message 62 = .ok (.getfield 89, 3) := by decide +kernel
theorem dX9_message_65 : decode cX9_message 65 = .ok (.getfield 238, 3) := by decide +kernel
theorem dX9_message_68 : decode cX9_message 68 = .ok (.iload_n 1, 1) := by decide +kernel
theorem dX9_message_69 : decode cX9_message 69 = .ok (.bipush 8, 2) := by decide +kernel
theorem dX9_message_71 : decode cX9_message 71 = .ok (.imul, 1) := by decide +kernel
theorem dX9_message_72 : decode cX9_message 72 = .ok (.iload 4, 2) := by decide +kernel
theorem dX9_message_74 : decode cX9_message 74 = .ok (.iadd, 1) := by decide +kernel
theorem dX9_message_75 : decode cX9_message 75 = .ok (.iaload, 1) := by decide +kernel
theorem dX9_message_76 : decode cX9_message 76 = .ok (.ireturn, 1) := by decide +kernel
theorem dX9_message_77 : decode cX9_message 77 = .ok (.iinc 4 1, 3) := by decide +kernel
theorem dX9_message_80 : decode cX9_message 80 = .ok (.goto (-47), 3) := by decide +kernel
theorem dX9_message_83 : decode cX9_message 83 = .ok (.bipush (-100), 2) := by decide +kernel
theorem dX9_message_85 : decode cX9_message 85 = .ok (.ireturn, 1) := by decide +kernel
theorem dX9_odd_0 : decode cX9_odd 0 = .ok (.aload_n 0, 1) := by decide +kernel
theorem dX9_odd_1 : decode cX9_odd 1 = .ok (.iload_n 1, 1) := by decide +kernel
theorem dX9_odd_2 : decode cX9_odd 2 = .ok (.invokevirtual 208, 3) := by decide +kernel
theorem dX9_odd_5 : decode cX9_odd 5 = .ok (.ifCond .eq 39, 3) := by decide +kernel
theorem dX9_odd_8 : decode cX9_odd 8 = .ok (.aload_n 0, 1) := by decide +kernel
theorem dX9_odd_9 : decode cX9_odd 9 = .ok (.getfield 19, 3) := by decide +kernel
theorem dX9_odd_12 : decode cX9_odd 12 = .ok (.getfield 89, 3) := by decide +kernel
theorem dX9_odd_15 : decode cX9_odd 15 = .ok (.getfield 98, 3) := by decide +kernel
theorem dX9_odd_18 : decode cX9_odd 18 = .ok (.getfield 211, 3) := by decide +kernel
theorem dX9_odd_21 : decode cX9_odd 21 = .ok (.iload_n 1, 1) := by decide +kernel
theorem dX9_odd_22 : decode cX9_odd 22 = .ok (.laload, 1) := by decide +kernel
theorem dX9_odd_23 : decode cX9_odd 23 = .ok (.aload_n 0, 1) := by decide +kernel
theorem dX9_odd_24 : decode cX9_odd 24 = .ok (.getfield 19, 3) := by decide +kernel
theorem dX9_odd_27 : decode cX9_odd 27 = .ok (.getfield 89, 3) := by decide +kernel
theorem dX9_odd_30 : decode cX9_odd 30 = .ok (.getfield 229, 3) := by decide +kernel
theorem dX9_odd_33 : decode cX9_odd 33 = .ok (.land, 1) := by decide +kernel
theorem dX9_odd_34 : decode cX9_odd 34 = .ok (.invokestatic 241, 3) := by decide +kernel
theorem dX9_odd_37 : decode cX9_odd 37 = .ok (.ifCond .eq 7, 3) := by decide +kernel
theorem dX9_odd_40 : decode cX9_odd 40 = .ok (.iconst 1, 1) := by decide +kernel
theorem dX9_odd_41 : decode cX9_odd 41 = .ok (.goto 4, 3) := by decide +kernel
theorem dX9_odd_44 : decode cX9_odd 44 = .ok (.iconst 0, 1) := by decide +kernel
theorem dX9_odd_45 : decode cX9_odd 45 = .ok (.ireturn, 1) := by decide +kernel
theorem dX9_book_0 : decode cX9_book 0 = .ok (.aload_n 0, 1) := by decide +kernel
theorem dX9_book_1 : decode cX9_book 1 = .ok (.getfield 19, 3) := by decide +kernel
theorem dX9_book_4 : decode cX9_book 4 = .ok (.getfield 89, 3) := by decide +kernel
theorem dX9_book_7 : decode cX9_book 7 = .ok (.getfield 245, 3) := by decide +kernel
theorem dX9_book_10 : decode cX9_book 10 = .ok (.bipush 16, 2) := by decide +kernel
theorem dX9_book_12 : decode cX9_book 12 = .ok (.invokestatic 248, 3) := by decide +kernel
theorem dX9_book_15 : decode cX9_book 15 = .ok (.istore_n 3, 1) := by decide +kernel
theorem dX9_book_16 : decode cX9_book 16 = .ok (.iload_n 1, 1) := by decide +kernel
theorem dX9_book_17 : decode cX9_book 17 = .ok (.iconst (-1), 1) := by decide +kernel
theorem dX9_book_18 : decode cX9_book 18 = .ok (.if_icmp .ne 5, 3) := by decide +kernel
theorem dX9_book_21 : decode cX9_book 21 = .ok (.iload_n 3, 1) := by decide +kernel
theorem dX9_book_22 : decode cX9_book 22 = .ok (.ireturn, 1) := by decide +kernel
theorem dX9_book_23 : decode cX9_book 23 = .ok (.iload_n 1, 1) := by decide +kernel
theorem dX9_book_24 : decode cX9_book 24 = .ok (.ifCond .lt 17, 3) := by decide +kernel
theorem dX9_book_27 : decode cX9_book 27 = .ok (.iload_n 1, 1) := by decide +kernel
theorem dX9_book_28 : decode cX9_book 28 = .ok (.iload_n 3, 1) := by decide +kernel
theorem dX9_book_29 : decode cX9_book 29 = .ok (.if_icmp .ge 12, 3) := by decide +kernel
theorem dX9_book_32 : decode cX9_book 32 = .ok (.iload_n 2, 1) := by decide +kernel
theorem dX9_book_33 : decode cX9_book 33 = .ok (.ifCond .lt 8, 3) := by decide +kernel
theorem dX9_book_36 : decode cX9_book 36 = .ok (.iload_n 2, 1) := by decide +kernel
theorem dX9_book_37 : decode cX9_book 37 = .ok (.iconst 3, 1) := by decide +kernel
theorem dX9_book_38 : decode cX9_book 38 = .ok (.if_icmp .lt 6, 3) := by decide +kernel
theorem dX9_book_41 : decode cX9_book 41 = .ok (.bipush (-2), 2) := by decide +kernel
theorem dX9_book_43 : decode cX9_book 43 = .ok (.ireturn, 1) := by decide +kernel
theorem dX9_book_44 : decode cX9_book 44 = .ok (.aload_n 0, 1) := by decide +kernel
theorem dX9_book_45 : decode cX9_book 45 = .ok (.getfield 19, 3) := by decide +kernel
theorem dX9_book_48 : decode cX9_book 48 = .ok (.getfield 89, 3) := by decide +kernel
theorem dX9_book_51 : decode cX9_book 51 = .ok (.getfield 253, 3) := by decide +kernel
theorem dX9_book_54 : decode cX9_book 54 = .ok (.aload_n 0, 1) := by decide +kernel
theorem dX9_book_55 : decode cX9_book 55 = .ok (.getfield 19, 3) := by decide +kernel
theorem dX9_book_58 : decode cX9_book 58 = .ok (.getfield 89, 3) := by decide +kernel
theorem dX9_book_61 : decode cX9_book 61 = .ok (.getfield 245, 3) := by decide +kernel
theorem dX9_book_64 : decode cX9_book 64 = .ok (.iload_n 3, 1) := by decide +kernel
theorem dX9_book_65 : decode cX9_book 65 = .ok (.isub, 1) := by decide +kernel
theorem dX9_book_66 : decode cX9_book 66 = .ok (.iload_n 1, 1) := by decide +kernel
theorem dX9_book_67 : decode cX9_book 67 = .ok (.iadd, 1) := by decide +kernel
theorem dX9_book_68 : decode cX9_book 68 = .ok (.bipush 16, 2) := by decide +kernel
theorem dX9_book_70 : decode cX9_book 70 = .ok (.irem, 1) := by decide +kernel
theorem dX9_book_71 : decode cX9_book 71 = .ok (.iconst 3, 1) := by decide +kernel
theorem dX9_book_72 : decode cX9_book 72 = .ok (.imul, 1) := by decide +kernel
theorem dX9_book_73 : decode cX9_book 73 = .ok (.iload_n 2, 1) := by decide +kernel
theorem dX9_book_74 : decode cX9_book 74 = .ok (.iadd, 1) := by decide +kernel
theorem dX9_book_75 : decode cX9_book 75 = .ok (.iaload, 1) := by decide +kernel
theorem dX9_book_76 : decode cX9_book 76 = .ok (.ireturn, 1) := by decide +kernel
theorem dX9_turned_0 : decode cX9_turned 0 = .ok (.aload_n 0, 1) := by decide +kernel
theorem dX9_turned_1 : decode cX9_turned 1 = .ok (.iload_n 1, 1) := by decide +kernel
theorem dX9_turned_2 : decode cX9_turned 2 = .ok (.invokevirtual 129, 3) := by decide +kernel
theorem dX9_turned_5 : decode cX9_turned 5 = .ok (.ifCond .eq 18, 3) := by decide +kernel
theorem dX9_turned_8 : decode cX9_turned 8 = .ok (.aload_n 0, 1) := by decide +kernel
theorem dX9_turned_9 : decode cX9_turned 9 = .ok (.getfield 19, 3) := by decide +kernel
theorem dX9_turned_12 : decode cX9_turned 12 = .ok (.getfield 89, 3) := by decide +kernel
theorem dX9_turned_15 : decode cX9_turned 15 = .ok (.getfield 256, 3) := by decide +kernel
theorem dX9_turned_18 : decode cX9_turned 18 = .ok (.iload_n 1, 1) := by decide +kernel
theorem dX9_turned_19 : decode cX9_turned 19 = .ok (.iaload, 1) := by decide +kernel
theorem dX9_turned_20 : decode cX9_turned 20 = .ok (.goto 4, 3) := by decide +kernel
theorem dX9_turned_23 : decode cX9_turned 23 = .ok (.iconst (-1), 1) := by decide +kernel
theorem dX9_turned_24 : decode cX9_turned 24 = .ok (.ireturn, 1) := by decide +kernel
theorem dX9_restless_0 : decode cX9_restless 0 = .ok (.iconst 0, 1) := by decide +kernel
theorem dX9_restless_1 : decode cX9_restless 1 = .ok (.istore_n 1, 1) := by decide +kernel
theorem dX9_restless_2 : decode cX9_restless 2 = .ok (.iconst (-1), 1) := by decide +kernel
theorem dX9_restless_3 : decode cX9_restless 3 = .ok (.istore_n 2, 1) := by decide +kernel
theorem dX9_restless_4 : decode cX9_restless 4 = .ok (.iconst 0, 1) := by decide +kernel
theorem dX9_restless_5 : decode cX9_restless 5 = .ok (.istore_n 3, 1) := by decide +kernel
theorem dX9_restless_6 : decode cX9_restless 6 = .ok (.iload_n 3, 1) := by decide +kernel
theorem dX9_restless_7 : decode cX9_restless 7 = .ok (.aload_n 0, 1) := by decide +kernel
theorem dX9_restless_8 : decode cX9_restless 8 = .ok (.getfield 19, 3) := by decide +kernel
theorem dX9_restless_11 : decode cX9_restless 11 = .ok (.getfield 89, 3) := by decide +kernel
theorem dX9_restless_14 : decode cX9_restless 14 = .ok (.getfield 98, 3) := by decide +kernel
theorem dX9_restless_17 : decode cX9_restless 17 = .ok (.getfield 95, 3) := by decide +kernel
theorem dX9_restless_20 : decode cX9_restless 20 = .ok (.if_icmp .ge 40, 3) := by decide +kernel
theorem dX9_restless_23 : decode cX9_restless 23 = .ok (.aload_n 0, 1) := by decide +kernel
theorem dX9_restless_24 : decode cX9_restless 24 = .ok (.getfield 19, 3) := by decide +kernel
theorem dX9_restless_27 : decode cX9_restless 27 = .ok (.getfield 89, 3) := by decide +kernel
theorem dX9_restless_30 : decode cX9_restless 30 = .ok (.getfield 256, 3) := by decide +kernel
theorem dX9_restless_33 : decode cX9_restless 33 = .ok (.iload_n 3, 1) := by decide +kernel
theorem dX9_restless_34 : decode cX9_restless 34 = .ok (.iaload, 1) := by decide +kernel
theorem dX9_restless_35 : decode cX9_restless 35 = .ok (.iload_n 1, 1) := by decide +kernel
theorem dX9_restless_36 : decode cX9_restless 36 = .ok (.if_icmp .le 18, 3) := by decide +kernel
theorem dX9_restless_39 : decode cX9_restless 39 = .ok (.aload_n 0, 1) := by decide +kernel
theorem dX9_restless_40 : decode cX9_restless 40 = .ok (.getfield 19, 3) := by decide +kernel
theorem dX9_restless_43 : decode cX9_restless 43 = .ok (.getfield 89, 3) := by decide +kernel
theorem dX9_restless_46 : decode cX9_restless 46 = .ok (.getfield 256, 3) := by decide +kernel
theorem dX9_restless_49 : decode cX9_restless 49 = .ok (.iload_n 3, 1) := by decide +kernel
theorem dX9_restless_50 : decode cX9_restless 50 = .ok (.iaload, 1) := by decide +kernel
theorem dX9_restless_51 : decode cX9_restless 51 = .ok (.istore_n 1, 1) := by decide +kernel
theorem dX9_restless_52 : decode cX9_restless 52 = .ok (.iload_n 3, 1) := by decide +kernel
theorem dX9_restless_53 : decode cX9_restless 53 = .ok (.istore_n 2, 1) := by decide +kernel
theorem dX9_restless_54 : decode cX9_restless 54 = .ok (.iinc 3 1, 3) := by decide +kernel
theorem dX9_restless_57 : decode cX9_restless 57 = .ok (.goto (-51), 3) := by decide +kernel
theorem dX9_restless_60 : decode cX9_restless 60 = .ok (.iload_n 2, 1) := by decide +kernel
theorem dX9_restless_61 : decode cX9_restless 61 = .ok (.ireturn, 1) := by decide +kernel
theorem dX9_guess_0 : decode cX9_guess 0 = .ok (.aload_n 0, 1) := by decide +kernel
theorem dX9_guess_1 : decode cX9_guess 1 = .ok (.getfield 19, 3) := by decide +kernel
theorem dX9_guess_4 : decode cX9_guess 4 = .ok (.getfield 89, 3) := by decide +kernel
theorem dX9_guess_7 : decode cX9_guess 7 = .ok (.getfield 229, 3) := by decide +kernel
theorem dX9_guess_10 : decode cX9_guess 10 = .ok (.lreturn, 1) := by decide +kernel
theorem dX9_sent_0 : decode cX9_sent 0 = .ok (.aload_n 0, 1) := by decide +kernel
theorem dX9_sent_1 : decode cX9_sent 1 = .ok (.getfield 19, 3) := by decide +kernel
theorem dX9_sent_4 : decode cX9_sent 4 = .ok (.getfield 89, 3) := by decide +kernel
theorem dX9_sent_7 : decode cX9_sent 7 = .ok (.getfield 109, 3) := by decide +kernel
theorem dX9_sent_10 : decode cX9_sent 10 = .ok (.lreturn, 1) := by decide +kernel
theorem dX9_wrong_0 : decode cX9_wrong 0 = .ok (.aload_n 0, 1) := by decide +kernel
theorem dX9_wrong_1 : decode cX9_wrong 1 = .ok (.getfield 19, 3) := by decide +kernel
theorem dX9_wrong_4 : decode cX9_wrong 4 = .ok (.getfield 89, 3) := by decide +kernel
theorem dX9_wrong_7 : decode cX9_wrong 7 = .ok (.getfield 229, 3) := by decide +kernel
theorem dX9_wrong_10 : decode cX9_wrong 10 = .ok (.aload_n 0, 1) := by decide +kernel
theorem dX9_wrong_11 : decode cX9_wrong 11 = .ok (.getfield 19, 3) := by decide +kernel
theorem dX9_wrong_14 : decode cX9_wrong 14 = .ok (.getfield 89, 3) := by decide +kernel
theorem dX9_wrong_17 : decode cX9_wrong 17 = .ok (.getfield 109, 3) := by decide +kernel
theorem dX9_wrong_20 : decode cX9_wrong 20 = .ok (.lxor, 1) := by decide +kernel
theorem dX9_wrong_21 : decode cX9_wrong 21 = .ok (.invokestatic 113, 3) := by decide +kernel
theorem dX9_wrong_24 : decode cX9_wrong 24 = .ok (.ireturn, 1) := by decide +kernel
theorem dX9_rank_0 : decode cX9_rank 0 = .ok (.aload_n 0, 1) := by decide +kernel
theorem dX9_rank_1 : decode cX9_rank 1 = .ok (.getfield 19, 3) := by decide +kernel
theorem dX9_rank_4 : decode cX9_rank 4 = .ok (.getfield 89, 3) := by decide +kernel
theorem dX9_rank_7 : decode cX9_rank 7 = .ok (.getfield 98, 3) := by decide +kernel
theorem dX9_rank_10 : decode cX9_rank 10 = .ok (.getfield 102, 3) := by decide +kernel
theorem dX9_rank_13 : decode cX9_rank 13 = .ok (.ireturn, 1) := by decide +kernel
theorem dX9_carrier_0 : decode cX9_carrier 0 = .ok (.aload_n 0, 1) := by decide +kernel
theorem dX9_carrier_1 : decode cX9_carrier 1 = .ok (.getfield 19, 3) := by decide +kernel
theorem dX9_carrier_4 : decode cX9_carrier 4 = .ok (.getfield 89, 3) := by decide +kernel
theorem dX9_carrier_7 : decode cX9_carrier 7 = .ok (.getfield 98, 3) := by decide +kernel
theorem dX9_carrier_10 : decode cX9_carrier 10 = .ok (.getfield 232, 3) := by decide +kernel
theorem dX9_carrier_13 : decode cX9_carrier 13 = .ok (.iload_n 1, 1) := by decide +kernel
theorem dX9_carrier_14 : decode cX9_carrier 14 = .ok (.invokestatic 215, 3) := by decide +kernel
theorem dX9_carrier_17 : decode cX9_carrier 17 = .ok (.ireturn, 1) := by decide +kernel
theorem dX9_girth_0 : decode cX9_girth 0 = .ok (.aload_n 0, 1) := by decide +kernel
theorem dX9_girth_1 : decode cX9_girth 1 = .ok (.getfield 19, 3) := by decide +kernel
theorem dX9_girth_4 : decode cX9_girth 4 = .ok (.getfield 89, 3) := by decide +kernel
theorem dX9_girth_7 : decode cX9_girth 7 = .ok (.getfield 98, 3) := by decide +kernel
theorem dX9_girth_10 : decode cX9_girth 10 = .ok (.invokestatic 259, 3) := by decide +kernel
theorem dX9_girth_13 : decode cX9_girth 13 = .ok (.ireturn, 1) := by decide +kernel
theorem dX9_fours_0 : decode cX9_fours 0 = .ok (.aload_n 0, 1) := by decide +kernel
theorem dX9_fours_1 : decode cX9_fours 1 = .ok (.getfield 19, 3) := by decide +kernel
theorem dX9_fours_4 : decode cX9_fours 4 = .ok (.getfield 89, 3) := by decide +kernel
theorem dX9_fours_7 : decode cX9_fours 7 = .ok (.getfield 98, 3) := by decide +kernel
theorem dX9_fours_10 : decode cX9_fours 10 = .ok (.invokestatic 265, 3) := by decide +kernel
theorem dX9_fours_13 : decode cX9_fours 13 = .ok (.ireturn, 1) := by decide +kernel
theorem dX9_sixes_0 : decode cX9_sixes 0 = .ok (.aload_n 0, 1) := by decide +kernel
theorem dX9_sixes_1 : decode cX9_sixes 1 = .ok (.getfield 19, 3) := by decide +kernel
theorem dX9_sixes_4 : decode cX9_sixes 4 = .ok (.getfield 89, 3) := by decide +kernel
theorem dX9_sixes_7 : decode cX9_sixes 7 = .ok (.getfield 98, 3) := by decide +kernel
theorem dX9_sixes_10 : decode cX9_sixes 10 = .ok (.invokestatic 268, 3) := by decide +kernel
theorem dX9_sixes_13 : decode cX9_sixes 13 = .ok (.ireturn, 1) := by decide +kernel
theorem dX9_path_0 : decode cX9_path 0 = .ok (.aload_n 0, 1) := by decide +kernel
theorem dX9_path_1 : decode cX9_path 1 = .ok (.iload_n 1, 1) := by decide +kernel
theorem dX9_path_2 : decode cX9_path 2 = .ok (.invokevirtual 129, 3) := by decide +kernel
theorem dX9_path_5 : decode cX9_path 5 = .ok (.ifCond .eq 11, 3) := by decide +kernel
theorem dX9_path_8 : decode cX9_path 8 = .ok (.aload_n 0, 1) := by decide +kernel
theorem dX9_path_9 : decode cX9_path 9 = .ok (.iload_n 2, 1) := by decide +kernel
theorem dX9_path_10 : decode cX9_path 10 = .ok (.invokevirtual 129, 3) := by decide +kernel
theorem dX9_path_13 : decode cX9_path 13 = .ok (.ifCond .ne 5, 3) := by decide +kernel
theorem dX9_path_16 : decode cX9_path 16 = .ok (.iconst (-1), 1) := by decide +kernel
theorem dX9_path_17 : decode cX9_path 17 = .ok (.ireturn, 1) := by decide +kernel
theorem dX9_path_18 : decode cX9_path 18 = .ok (.aload_n 0, 1) := by decide +kernel
theorem dX9_path_19 : decode cX9_path 19 = .ok (.getfield 19, 3) := by decide +kernel
theorem dX9_path_22 : decode cX9_path 22 = .ok (.getfield 89, 3) := by decide +kernel
theorem dX9_path_25 : decode cX9_path 25 = .ok (.getfield 98, 3) := by decide +kernel
theorem dX9_path_28 : decode cX9_path 28 = .ok (.iload_n 1, 1) := by decide +kernel
theorem dX9_path_29 : decode cX9_path 29 = .ok (.lconst 1, 1) := by decide +kernel
theorem dX9_path_30 : decode cX9_path 30 = .ok (.iload_n 2, 1) := by decide +kernel
theorem dX9_path_31 : decode cX9_path 31 = .ok (.lshl, 1) := by decide +kernel
theorem dX9_path_32 : decode cX9_path 32 = .ok (.iconst (-1), 1) := by decide +kernel
theorem dX9_path_33 : decode cX9_path 33 = .ok (.invokestatic 271, 3) := by decide +kernel
theorem dX9_path_36 : decode cX9_path 36 = .ok (.ireturn, 1) := by decide +kernel
theorem dX9_pieces_0 : decode cX9_pieces 0 = .ok (.aload_n 0, 1) := by decide +kernel
theorem dX9_pieces_1 : decode cX9_pieces 1 = .ok (.getfield 19, 3) := by decide +kernel
theorem dX9_pieces_4 : decode cX9_pieces 4 = .ok (.getfield 89, 3) := by decide +kernel
theorem dX9_pieces_7 : decode cX9_pieces 7 = .ok (.getfield 98, 3) := by decide +kernel
theorem dX9_pieces_10 : decode cX9_pieces 10 = .ok (.invokestatic 275, 3) := by decide +kernel
theorem dX9_pieces_13 : decode cX9_pieces 13 = .ok (.ireturn, 1) := by decide +kernel
theorem dX9_odds_0 : decode cX9_odds 0 = .ok (.aload_n 0, 1) := by decide +kernel
theorem dX9_odds_1 : decode cX9_odds 1 = .ok (.lload_n 1, 1) := by decide +kernel
theorem dX9_odds_2 : decode cX9_odds 2 = .ok (.invokevirtual 278, 3) := by decide +kernel
theorem dX9_odds_5 : decode cX9_odds 5 = .ok (.ifCond .eq 20, 3) := by decide +kernel
theorem dX9_odds_8 : decode cX9_odds 8 = .ok (.aload_n 0, 1) := by decide +kernel
theorem dX9_odds_9 : decode cX9_odds 9 = .ok (.getfield 19, 3) := by decide +kernel
theorem dX9_odds_12 : decode cX9_odds 12 = .ok (.getfield 89, 3) := by decide +kernel
theorem dX9_odds_15 : decode cX9_odds 15 = .ok (.getfield 98, 3) := by decide +kernel
theorem dX9_odds_18 : decode cX9_odds 18 = .ok (.lload_n 1, 1) := by decide +kernel
theorem dX9_odds_19 : decode cX9_odds 19 = .ok (.invokevirtual 281, 3) := by decide +kernel
theorem dX9_odds_22 : decode cX9_odds 22 = .ok (.goto 4, 3) := by decide +kernel
theorem dX9_odds_25 : decode cX9_odds 25 = .ok (.iconst (-1), 1) := by decide +kernel
theorem dX9_odds_26 : decode cX9_odds 26 = .ok (.ireturn, 1) := by decide +kernel
theorem dX9_knot_0 : decode cX9_knot 0 = .ok (.lload_n 1, 1) := by decide +kernel
theorem dX9_knot_1 : decode cX9_knot 1 = .ok (.invokestatic 113, 3) := by decide +kernel
theorem dX9_knot_4 : decode cX9_knot 4 = .ok (.istore_n 3, 1) := by decide +kernel
theorem dX9_knot_5 : decode cX9_knot 5 = .ok (.aload_n 0, 1) := by decide +kernel
theorem dX9_knot_6 : decode cX9_knot 6 = .ok (.lload_n 1, 1) := by decide +kernel
theorem dX9_knot_7 : decode cX9_knot 7 = .ok (.invokevirtual 278, 3) := by decide +kernel
theorem dX9_knot_10 : decode cX9_knot 10 = .ok (.ifCond .eq 13, 3) := by decide +kernel
theorem dX9_knot_13 : decode cX9_knot 13 = .ok (.iload_n 3, 1) := by decide +kernel
theorem dX9_knot_14 : decode cX9_knot 14 = .ok (.iconst 1, 1) := by decide +kernel
theorem dX9_knot_15 : decode cX9_knot 15 = .ok (.if_icmp .lt 8, 3) := by decide +kernel
theorem dX9_knot_18 : decode cX9_knot 18 = .ok (.iload_n 3, 1) := by decide +kernel
theorem dX9_knot_19 : decode cX9_knot 19 = .ok (.iconst 4, 1) := by decide +kernel
theorem dX9_knot_20 : decode cX9_knot 20 = .ok (.if_icmp .le 5, 3) := by decide +kernel
theorem dX9_knot_23 : decode cX9_knot 23 = .ok (.iconst 0, 1) := by decide +kernel
theorem dX9_knot_24 : decode cX9_knot 24 = .ok (.ireturn, 1) := by decide +kernel
theorem dX9_knot_25 : decode cX9_knot 25 = .ok (.aload_n 0, 1) := by decide +kernel
theorem dX9_knot_26 : decode cX9_knot 26 = .ok (.getfield 19, 3) := by decide +kernel
theorem dX9_knot_29 : decode cX9_knot 29 = .ok (.getfield 89, 3) := by decide +kernel
theorem dX9_knot_32 : decode cX9_knot 32 = .ok (.getfield 98, 3) := by decide +kernel
theorem dX9_knot_35 : decode cX9_knot 35 = .ok (.astore 4, 2) := by decide +kernel
theorem dX9_knot_37 : decode cX9_knot 37 = .ok (.aload 4, 2) := by decide +kernel
theorem dX9_knot_39 : decode cX9_knot 39 = .ok (.lload_n 1, 1) := by decide +kernel
theorem dX9_knot_40 : decode cX9_knot 40 = .ok (.invokevirtual 284, 3) := by decide +kernel
theorem dX9_knot_43 : decode cX9_knot 43 = .ok (.istore 5, 2) := by decide +kernel
theorem dX9_knot_45 : decode cX9_knot 45 = .ok (.iconst 0, 1) := by decide +kernel
theorem dX9_knot_46 : decode cX9_knot 46 = .ok (.istore 6, 2) := by decide +kernel
theorem dX9_knot_48 : decode cX9_knot 48 = .ok (.iload 6, 2) := by decide +kernel
theorem dX9_knot_50 : decode cX9_knot 50 = .ok (.aload 4, 2) := by decide +kernel
theorem dX9_knot_52 : decode cX9_knot 52 = .ok (.getfield 95, 3) := by decide +kernel
theorem dX9_knot_55 : decode cX9_knot 55 = .ok (.if_icmp .ge 34, 3) := by decide +kernel
theorem dX9_knot_58 : decode cX9_knot 58 = .ok (.lload_n 1, 1) := by decide +kernel
theorem dX9_knot_59 : decode cX9_knot 59 = .ok (.iload 6, 2) := by decide +kernel
theorem dX9_knot_61 : decode cX9_knot 61 = .ok (.lshr, 1) := by decide +kernel
theorem dX9_knot_62 : decode cX9_knot 62 = .ok (.lconst 1, 1) := by decide +kernel
theorem dX9_knot_63 : decode cX9_knot 63 = .ok (.land, 1) := by decide +kernel
theorem dX9_knot_64 : decode cX9_knot 64 = .ok (.lconst 0, 1) := by decide +kernel
theorem dX9_knot_65 : decode cX9_knot 65 = .ok (.lcmp, 1) := by decide +kernel
theorem dX9_knot_66 : decode cX9_knot 66 = .ok (.ifCond .eq 17, 3) := by decide +kernel
theorem dX9_knot_69 : decode cX9_knot 69 = .ok (.aload 4, 2) := by decide +kernel
theorem dX9_knot_71 : decode cX9_knot 71 = .ok (.iload 6, 2) := by decide +kernel
theorem dX9_knot_73 : decode cX9_knot 73 = .ok (.iload 5, 2) := by decide +kernel
theorem dX9_knot_75 : decode cX9_knot 75 = .ok (.invokevirtual 287, 3) := by decide +kernel
theorem dX9_knot_78 : decode cX9_knot 78 = .ok (.ifCond .ne 5, 3) := by decide +kernel
theorem dX9_knot_81 : decode cX9_knot 81 = .ok (.iconst 0, 1) := by decide +kernel
theorem dX9_knot_82 : decode cX9_knot 82 = .ok (.ireturn, 1) := by decide +kernel
theorem dX9_knot_83 : decode cX9_knot 83 = .ok (.iinc 6 1, 3) := by decide +kernel
theorem dX9_knot_86 : decode cX9_knot 86 = .ok (.goto (-38), 3) := by decide +kernel
theorem dX9_knot_89 : decode cX9_knot 89 = .ok (.iconst 1, 1) := by decide +kernel
theorem dX9_knot_90 : decode cX9_knot 90 = .ok (.ireturn, 1) := by decide +kernel
theorem dX9_knots_0 : decode cX9_knots 0 = .ok (.iload_n 1, 1) := by decide +kernel
theorem dX9_knots_1 : decode cX9_knots 1 = .ok (.invokestatic 291, 3) := by decide +kernel
theorem dX9_knots_4 : decode cX9_knots 4 = .ok (.ifCond .eq 25, 3) := by decide +kernel
theorem dX9_knots_7 : decode cX9_knots 7 = .ok (.aload_n 0, 1) := by decide +kernel
theorem dX9_knots_8 : decode cX9_knots 8 = .ok (.getfield 43, 3) := by decide +kernel
theorem dX9_knots_11 : decode cX9_knots 11 = .ok (.aload_n 0, 1) := by decide +kernel
theorem dX9_knots_12 : decode cX9_knots 12 = .ok (.getfield 19, 3) := by decide +kernel
theorem dX9_knots_15 : decode cX9_knots 15 = .ok (.getfield 89, 3) := by decide +kernel
theorem dX9_knots_18 : decode cX9_knots 18 = .ok (.getfield 98, 3) := by decide +kernel
theorem dX9_knots_21 : decode cX9_knots 21 = .ok (.iconst 3, 1) := by decide +kernel
theorem dX9_knots_22 : decode cX9_knots 22 = .ok (.iload_n 1, 1) := by decide +kernel
theorem dX9_knots_23 : decode cX9_knots 23 = .ok (.invokevirtual 294, 3) := by decide +kernel
theorem dX9_knots_26 : decode cX9_knots 26 = .ok (.goto 4, 3) := by decide +kernel
theorem dX9_knots_29 : decode cX9_knots 29 = .ok (.iconst (-1), 1) := by decide +kernel
theorem dX9_knots_30 : decode cX9_knots 30 = .ok (.ireturn, 1) := by decide +kernel
theorem dX9_least_0 : decode cX9_least 0 = .ok (.iload_n 1, 1) := by decide +kernel
theorem dX9_least_1 : decode cX9_least 1 = .ok (.invokestatic 291, 3) := by decide +kernel
theorem dX9_least_4 : decode cX9_least 4 = .ok (.ifCond .eq 25, 3) := by decide +kernel
theorem dX9_least_7 : decode cX9_least 7 = .ok (.aload_n 0, 1) := by decide +kernel
theorem dX9_least_8 : decode cX9_least 8 = .ok (.getfield 43, 3) := by decide +kernel
theorem dX9_least_11 : decode cX9_least 11 = .ok (.aload_n 0, 1) := by decide +kernel
theorem dX9_least_12 : decode cX9_least 12 = .ok (.getfield 19, 3) := by decide +kernel
theorem dX9_least_15 : decode cX9_least 15 = .ok (.getfield 89, 3) := by decide +kernel
theorem dX9_least_18 : decode cX9_least 18 = .ok (.getfield 98, 3) := by decide +kernel
theorem dX9_least_21 : decode cX9_least 21 = .ok (.iload_n 1, 1) := by decide +kernel
theorem dX9_least_22 : decode cX9_least 22 = .ok (.iload_n 2, 1) := by decide +kernel
theorem dX9_least_23 : decode cX9_least 23 = .ok (.invokevirtual 298, 3) := by decide +kernel
theorem dX9_least_26 : decode cX9_least 26 = .ok (.goto 4, 3) := by decide +kernel
theorem dX9_least_29 : decode cX9_least 29 = .ok (.lconst 0, 1) := by decide +kernel
theorem dX9_least_30 : decode cX9_least 30 = .ok (.lreturn, 1) := by decide +kernel
theorem dX9_stoppers_0 : decode cX9_stoppers 0 = .ok (.iload_n 1, 1) := by decide +kernel
theorem dX9_stoppers_1 : decode cX9_stoppers 1 = .ok (.invokestatic 291, 3) := by decide +kernel
theorem dX9_stoppers_4 : decode cX9_stoppers 4 = .ok (.ifCond .eq 25, 3) := by decide +kernel
theorem dX9_stoppers_7 : decode cX9_stoppers 7 = .ok (.aload_n 0, 1) := by decide +kernel
theorem dX9_stoppers_8 : decode cX9_stoppers 8 = .ok (.getfield 43, 3) := by decide +kernel
theorem dX9_stoppers_11 : decode cX9_stoppers 11 = .ok (.aload_n 0, 1) := by decide +kernel
theorem dX9_stoppers_12 : decode cX9_stoppers 12 = .ok (.getfield 19, 3) := by decide +kernel
theorem dX9_stoppers_15 : decode cX9_stoppers 15 = .ok (.getfield 89, 3) := by decide +kernel
theorem dX9_stoppers_18 : decode cX9_stoppers 18 = .ok (.getfield 98, 3) := by decide +kernel
theorem dX9_stoppers_21 : decode cX9_stoppers 21 = .ok (.iconst 1, 1) := by decide +kernel
theorem dX9_stoppers_22 : decode cX9_stoppers 22 = .ok (.iload_n 1, 1) := by decide +kernel
theorem dX9_stoppers_23 : decode cX9_stoppers 23 = .ok (.invokevirtual 294, 3) := by decide +kernel
theorem dX9_stoppers_26 : decode cX9_stoppers 26 = .ok (.goto 4, 3) := by decide +kernel
theorem dX9_stoppers_29 : decode cX9_stoppers 29 = .ok (.iconst (-1), 1) := by decide +kernel
theorem dX9_stoppers_30 : decode cX9_stoppers 30 = .ok (.ireturn, 1) := by decide +kernel
theorem dX9_words_0 : decode cX9_words 0 = .ok (.iload_n 1, 1) := by decide +kernel
theorem dX9_words_1 : decode cX9_words 1 = .ok (.invokestatic 291, 3) := by decide +kernel
theorem dX9_words_4 : decode cX9_words 4 = .ok (.ifCond .eq 25, 3) := by decide +kernel
theorem dX9_words_7 : decode cX9_words 7 = .ok (.aload_n 0, 1) := by decide +kernel
theorem dX9_words_8 : decode cX9_words 8 = .ok (.getfield 43, 3) := by decide +kernel
theorem dX9_words_11 : decode cX9_words 11 = .ok (.aload_n 0, 1) := by decide +kernel
theorem dX9_words_12 : decode cX9_words 12 = .ok (.getfield 19, 3) := by decide +kernel
theorem dX9_words_15 : decode cX9_words 15 = .ok (.getfield 89, 3) := by decide +kernel
theorem dX9_words_18 : decode cX9_words 18 = .ok (.getfield 98, 3) := by decide +kernel
theorem dX9_words_21 : decode cX9_words 21 = .ok (.iconst 0, 1) := by decide +kernel
theorem dX9_words_22 : decode cX9_words 22 = .ok (.iload_n 1, 1) := by decide +kernel
theorem dX9_words_23 : decode cX9_words 23 = .ok (.invokevirtual 294, 3) := by decide +kernel
theorem dX9_words_26 : decode cX9_words 26 = .ok (.goto 4, 3) := by decide +kernel
theorem dX9_words_29 : decode cX9_words 29 = .ok (.iconst (-1), 1) := by decide +kernel
theorem dX9_words_30 : decode cX9_words 30 = .ok (.ireturn, 1) := by decide +kernel
theorem dX9_trapped_0 : decode cX9_trapped 0 = .ok (.iload_n 1, 1) := by decide +kernel
theorem dX9_trapped_1 : decode cX9_trapped 1 = .ok (.invokestatic 291, 3) := by decide +kernel
theorem dX9_trapped_4 : decode cX9_trapped 4 = .ok (.ifCond .eq 10, 3) := by decide +kernel
theorem dX9_trapped_7 : decode cX9_trapped 7 = .ok (.iload_n 3, 1) := by decide +kernel
theorem dX9_trapped_8 : decode cX9_trapped 8 = .ok (.invokestatic 137, 3) := by decide +kernel
theorem dX9_trapped_11 : decode cX9_trapped 11 = .ok (.ifCond .ne 5, 3) := by decide +kernel
theorem dX9_trapped_14 : decode cX9_trapped 14 = .ok (.iconst (-1), 1) := by decide +kernel
theorem dX9_trapped_15 : decode cX9_trapped 15 = .ok (.ireturn, 1) := by decide +kernel
theorem dX9_trapped_16 : decode cX9_trapped 16 = .ok (.aload_n 0, 1) := by decide +kernel
theorem dX9_trapped_17 : decode cX9_trapped 17 = .ok (.getfield 43, 3) := by decide +kernel
theorem dX9_trapped_20 : decode cX9_trapped 20 = .ok (.aload_n 0, 1) := by decide +kernel
theorem dX9_trapped_21 : decode cX9_trapped 21 = .ok (.getfield 19, 3) := by decide +kernel
theorem dX9_trapped_24 : decode cX9_trapped 24 = .ok (.getfield 89, 3) := by decide +kernel
theorem dX9_trapped_27 : decode cX9_trapped 27 = .ok (.getfield 98, 3) := by decide +kernel
theorem dX9_trapped_30 : decode cX9_trapped 30 = .ok (.iload_n 1, 1) := by decide +kernel
theorem dX9_trapped_31 : decode cX9_trapped 31 = .ok (.iload_n 2, 1) := by decide +kernel
theorem dX9_trapped_32 : decode cX9_trapped 32 = .ok (.invokevirtual 298, 3) := by decide +kernel
theorem dX9_trapped_35 : decode cX9_trapped 35 = .ok (.lstore 4, 2) := by decide +kernel
theorem dX9_trapped_37 : decode cX9_trapped 37 = .ok (.lload 4, 2) := by decide +kernel
theorem dX9_trapped_39 : decode cX9_trapped 39 = .ok (.lconst 0, 1) := by decide +kernel
theorem dX9_trapped_40 : decode cX9_trapped 40 = .ok (.lcmp, 1) := by decide +kernel
theorem dX9_trapped_41 : decode cX9_trapped 41 = .ok (.ifCond .ne 7, 3) := by decide +kernel
theorem dX9_trapped_44 : decode cX9_trapped 44 = .ok (.iconst (-1), 1) := by decide +kernel
theorem dX9_trapped_45 : decode cX9_trapped 45 = .ok (.goto 10, 3) := by decide +kernel
theorem dX9_trapped_48 : decode cX9_trapped 48 = .ok (.aload_n 0, 1) := by decide +kernel
theorem dX9_trapped_49 : decode cX9_trapped 49 = .ok (.lload 4, 2) := by decide +kernel
theorem dX9_trapped_51 : decode cX9_trapped 51 = .ok (.iload_n 3, 1) := by decide +kernel
theorem dX9_trapped_52 : decode cX9_trapped 52 = .ok (.invokevirtual 302, 3) := by decide +kernel
theorem dX9_trapped_55 : decode cX9_trapped 55 = .ok (.ireturn, 1) := by decide +kernel
theorem dX9_traps_0 : decode cX9_traps 0 = .ok (.iload_n 1, 1) := by decide +kernel
theorem dX9_traps_1 : decode cX9_traps 1 = .ok (.invokestatic 291, 3) := by decide +kernel
theorem dX9_traps_4 : decode cX9_traps 4 = .ok (.ifCond .eq 10, 3) := by decide +kernel
theorem dX9_traps_7 : decode cX9_traps 7 = .ok (.iload_n 2, 1) := by decide +kernel
theorem dX9_traps_8 : decode cX9_traps 8 = .ok (.invokestatic 137, 3) := by decide +kernel
theorem dX9_traps_11 : decode cX9_traps 11 = .ok (.ifCond .ne 5, 3) := by decide +kernel
theorem dX9_traps_14 : decode cX9_traps 14 = .ok (.iconst (-1), 1) := by decide +kernel
theorem dX9_traps_15 : decode cX9_traps 15 = .ok (.ireturn, 1) := by decide +kernel
theorem dX9_traps_16 : decode cX9_traps 16 = .ok (.iconst 0, 1) := by decide +kernel
theorem dX9_traps_17 : decode cX9_traps 17 = .ok (.istore_n 3, 1) := by decide +kernel
theorem dX9_traps_18 : decode cX9_traps 18 = .ok (.iconst 0, 1) := by decide +kernel
theorem dX9_traps_19 : decode cX9_traps 19 = .ok (.istore 4, 2) := by decide +kernel
theorem dX9_traps_21 : decode cX9_traps 21 = .ok (.iload 4, 2) := by decide +kernel
theorem dX9_traps_23 : decode cX9_traps 23 = .ok (.bipush 20, 2) := by decide +kernel
theorem dX9_traps_25 : decode cX9_traps 25 = .ok (.if_icmp .ge 51, 3) := by decide +kernel
theorem dX9_traps_28 : decode cX9_traps 28 = .ok (.aload_n 0, 1) := by decide +kernel
theorem dX9_traps_29 : decode cX9_traps 29 = .ok (.getfield 43, 3) := by decide +kernel
theorem dX9_traps_32 : decode cX9_traps 32 = .ok (.aload_n 0, 1) := by decide +kernel
theorem dX9_traps_33 : decode cX9_traps 33 = .ok (.getfield 19, 3) := by decide +kernel
theorem dX9_traps_36 : decode cX9_traps 36 = .ok (.getfield 89, 3) := by decide +kernel
theorem dX9_traps_39 : decode cX9_traps 39 = .ok (.getfield 98, 3) := by decide +kernel
theorem dX9_traps_42 : decode cX9_traps 42 = .ok (.iload_n 1, 1) := by decide +kernel
theorem dX9_traps_43 : decode cX9_traps 43 = .ok (.iload 4, 2) := by decide +kernel
theorem dX9_traps_45 : decode cX9_traps 45 = .ok (.invokevirtual 298, 3) := by decide +kernel
theorem dX9_traps_48 : decode cX9_traps 48 = .ok (.lstore 5, 2) := by decide +kernel
theorem dX9_traps_50 : decode cX9_traps 50 = .ok (.lload 5, 2) := by decide +kernel
theorem dX9_traps_52 : decode cX9_traps 52 = .ok (.lconst 0, 1) := by decide +kernel
theorem dX9_traps_53 : decode cX9_traps 53 = .ok (.lcmp, 1) := by decide +kernel
theorem dX9_traps_54 : decode cX9_traps 54 = .ok (.ifCond .eq 16, 3) := by decide +kernel
theorem dX9_traps_57 : decode cX9_traps 57 = .ok (.aload_n 0, 1) := by decide +kernel
theorem dX9_traps_58 : decode cX9_traps 58 = .ok (.lload 5, 2) := by decide +kernel
theorem dX9_traps_60 : decode cX9_traps 60 = .ok (.iload_n 2, 1) := by decide +kernel
theorem dX9_traps_61 : decode cX9_traps 61 = .ok (.invokevirtual 302, 3) := by decide +kernel
theorem dX9_traps_64 : decode cX9_traps 64 = .ok (.ifCond .eq 6, 3) := by decide +kernel
theorem dX9_traps_67 : decode cX9_traps 67 = .ok (.iinc 3 1, 3) := by decide +kernel
theorem dX9_traps_70 : decode cX9_traps 70 = .ok (.iinc 4 1, 3) := by decide +kernel
theorem dX9_traps_73 : decode cX9_traps 73 = .ok (.goto (-52), 3) := by decide +kernel
theorem dX9_traps_76 : decode cX9_traps 76 = .ok (.iload_n 3, 1) := by decide +kernel
theorem dX9_traps_77 : decode cX9_traps 77 = .ok (.ireturn, 1) := by decide +kernel
theorem dX9_weakest_0 : decode cX9_weakest 0 = .ok (.iload_n 1, 1) := by decide +kernel
theorem dX9_weakest_1 : decode cX9_weakest 1 = .ok (.invokestatic 137, 3) := by decide +kernel
theorem dX9_weakest_4 : decode cX9_weakest 4 = .ok (.ifCond .ne 5, 3) := by decide +kernel
theorem dX9_weakest_7 : decode cX9_weakest 7 = .ok (.lconst 0, 1) := by decide +kernel
theorem dX9_weakest_8 : decode cX9_weakest 8 = .ok (.lreturn, 1) := by decide +kernel
theorem dX9_weakest_9 : decode cX9_weakest 9 = .ok (.iconst 1, 1) := by decide +kernel
theorem dX9_weakest_10 : decode cX9_weakest 10 = .ok (.istore_n 2, 1) := by decide +kernel
theorem dX9_weakest_11 : decode cX9_weakest 11 = .ok (.iload_n 2, 1) := by decide +kernel
theorem dX9_weakest_12 : decode cX9_weakest 12 = .ok (.iconst 4, 1) := by decide +kernel
theorem dX9_weakest_13 : decode cX9_weakest 13 = .ok (.if_icmp .gt 64, 3) := by decide +kernel
theorem dX9_weakest_16 : decode cX9_weakest 16 = .ok (.iconst 0, 1) := by decide +kernel
theorem dX9_weakest_17 : decode cX9_weakest 17 = .ok (.istore_n 3, 1) := by decide +kernel
theorem dX9_weakest_18 : decode cX9_weakest 18 = .ok (.iload_n 3, 1) := by decide +kernel
theorem dX9_weakest_19 : decode cX9_weakest 19 = .ok (.bipush 20, 2) := by decide +kernel
theorem dX9_weakest_21 : decode cX9_weakest 21 = .ok (.if_icmp .ge 50, 3) := by decide +kernel
theorem dX9_weakest_24 : decode cX9_weakest 24 = .ok (.aload_n 0, 1) := by decide +kernel
theorem dX9_weakest_25 : decode cX9_weakest 25 = .ok (.getfield 43, 3) := by decide +kernel
theorem dX9_weakest_28 : decode cX9_weakest 28 = .ok (.aload_n 0, 1) := by decide +kernel
theorem dX9_weakest_29 : decode cX9_weakest 29 = .ok (.getfield 19, 3) := by decide +kernel
theorem dX9_weakest_32 : decode cX9_weakest 32 = .ok (.getfield 89, 3) := by decide +kernel
theorem dX9_weakest_35 : decode cX9_weakest 35 = .ok (.getfield 98, 3) := by decide +kernel
theorem dX9_weakest_38 : decode cX9_weakest 38 = .ok (.iload_n 2, 1) := by decide +kernel
theorem dX9_weakest_39 : decode cX9_weakest 39 = .ok (.iload_n 3, 1) := by decide +kernel
theorem dX9_weakest_40 : decode cX9_weakest 40 = .ok (.invokevirtual 298, 3) := by decide +kernel
theorem dX9_weakest_43 : decode cX9_weakest 43 = .ok (.lstore 4, 2) := by decide +kernel
theorem dX9_weakest_45 : decode cX9_weakest 45 = .ok (.lload 4, 2) := by decide +kernel
theorem dX9_weakest_47 : decode cX9_weakest 47 = .ok (.lconst 0, 1) := by decide +kernel
theorem dX9_weakest_48 : decode cX9_weakest 48 = .ok (.lcmp, 1) := by decide +kernel
theorem dX9_weakest_49 : decode cX9_weakest 49 = .ok (.ifCond .eq 16, 3) := by decide +kernel
theorem dX9_weakest_52 : decode cX9_weakest 52 = .ok (.aload_n 0, 1) := by decide +kernel
theorem dX9_weakest_53 : decode cX9_weakest 53 = .ok (.lload 4, 2) := by decide +kernel
theorem dX9_weakest_55 : decode cX9_weakest 55 = .ok (.iload_n 1, 1) := by decide +kernel
theorem dX9_weakest_56 : decode cX9_weakest 56 = .ok (.invokevirtual 302, 3) := by decide +kernel
theorem dX9_weakest_59 : decode cX9_weakest 59 = .ok (.ifCond .eq 6, 3) := by decide +kernel
theorem dX9_weakest_62 : decode cX9_weakest 62 = .ok (.lload 4, 2) := by decide +kernel
theorem dX9_weakest_64 : decode cX9_weakest 64 = .ok (.lreturn, 1) := by decide +kernel
theorem dX9_weakest_65 : decode cX9_weakest 65 = .ok (.iinc 3 1, 3) := by decide +kernel
theorem dX9_weakest_68 : decode cX9_weakest 68 = .ok (.goto (-50), 3) := by decide +kernel
theorem dX9_weakest_71 : decode cX9_weakest 71 = .ok (.iinc 2 1, 3) := by decide +kernel
theorem dX9_weakest_74 : decode cX9_weakest 74 = .ok (.goto (-63), 3) := by decide +kernel
theorem dX9_weakest_77 : decode cX9_weakest 77 = .ok (.lconst 0, 1) := by decide +kernel
theorem dX9_weakest_78 : decode cX9_weakest 78 = .ok (.lreturn, 1) := by decide +kernel
theorem dX9_peeled_0 : decode cX9_peeled 0 = .ok (.aload_n 0, 1) := by decide +kernel
theorem dX9_peeled_1 : decode cX9_peeled 1 = .ok (.lload_n 1, 1) := by decide +kernel
theorem dX9_peeled_2 : decode cX9_peeled 2 = .ok (.invokevirtual 278, 3) := by decide +kernel
theorem dX9_peeled_5 : decode cX9_peeled 5 = .ok (.ifCond .eq 20, 3) := by decide +kernel
theorem dX9_peeled_8 : decode cX9_peeled 8 = .ok (.aload_n 0, 1) := by decide +kernel
theorem dX9_peeled_9 : decode cX9_peeled 9 = .ok (.getfield 19, 3) := by decide +kernel
theorem dX9_peeled_12 : decode cX9_peeled 12 = .ok (.getfield 89, 3) := by decide +kernel
theorem dX9_peeled_15 : decode cX9_peeled 15 = .ok (.getfield 98, 3) := by decide +kernel
theorem dX9_peeled_18 : decode cX9_peeled 18 = .ok (.lload_n 1, 1) := by decide +kernel
theorem dX9_peeled_19 : decode cX9_peeled 19 = .ok (.invokestatic 305, 3) := by decide +kernel
theorem dX9_peeled_22 : decode cX9_peeled 22 = .ok (.goto 6, 3) := by decide +kernel
theorem dX9_peeled_25 : decode cX9_peeled 25 = .ok (.ldc2_w 309, 3) := by decide +kernel
theorem dX9_peeled_28 : decode cX9_peeled 28 = .ok (.lreturn, 1) := by decide +kernel
theorem dX9_known_0 : decode cX9_known 0 = .ok (.aload_n 0, 1) := by decide +kernel
theorem dX9_known_1 : decode cX9_known 1 = .ok (.lload_n 1, 1) := by decide +kernel
theorem dX9_known_2 : decode cX9_known 2 = .ok (.invokevirtual 278, 3) := by decide +kernel
theorem dX9_known_5 : decode cX9_known 5 = .ok (.ifCond .ne 5, 3) := by decide +kernel
theorem dX9_known_8 : decode cX9_known 8 = .ok (.iconst (-1), 1) := by decide +kernel
theorem dX9_known_9 : decode cX9_known 9 = .ok (.ireturn, 1) := by decide +kernel
theorem dX9_known_10 : decode cX9_known 10 = .ok (.lload_n 1, 1) := by decide +kernel
theorem dX9_known_11 : decode cX9_known 11 = .ok (.invokestatic 113, 3) := by decide +kernel
theorem dX9_known_14 : decode cX9_known 14 = .ok (.aload_n 0, 1) := by decide +kernel
theorem dX9_known_15 : decode cX9_known 15 = .ok (.getfield 19, 3) := by decide +kernel
theorem dX9_known_18 : decode cX9_known 18 = .ok (.getfield 89, 3) := by decide +kernel
theorem dX9_known_21 : decode cX9_known 21 = .ok (.getfield 98, 3) := by decide +kernel
theorem dX9_known_24 : decode cX9_known 24 = .ok (.lload_n 1, 1) := by decide +kernel
theorem dX9_known_25 : decode cX9_known 25 = .ok (.invokestatic 305, 3) := by decide +kernel
theorem dX9_known_28 : decode cX9_known 28 = .ok (.invokestatic 113, 3) := by decide +kernel
theorem dX9_known_31 : decode cX9_known 31 = .ok (.isub, 1) := by decide +kernel
theorem dX9_known_32 : decode cX9_known 32 = .ok (.ireturn, 1) := by decide +kernel
theorem dX9_erasable_0 : decode cX9_erasable 0 = .ok (.iload_n 1, 1) := by decide +kernel
theorem dX9_erasable_1 : decode cX9_erasable 1 = .ok (.invokestatic 291, 3) := by decide +kernel
theorem dX9_erasable_4 : decode cX9_erasable 4 = .ok (.ifCond .eq 25, 3) := by decide +kernel
theorem dX9_erasable_7 : decode cX9_erasable 7 = .ok (.aload_n 0, 1) := by decide +kernel
theorem dX9_erasable_8 : decode cX9_erasable 8 = .ok (.getfield 43, 3) := by decide +kernel
theorem dX9_erasable_11 : decode cX9_erasable 11 = .ok (.aload_n 0, 1) := by decide +kernel
theorem dX9_erasable_12 : decode cX9_erasable 12 = .ok (.getfield 19, 3) := by decide +kernel
theorem dX9_erasable_15 : decode cX9_erasable 15 = .ok (.getfield 89, 3) := by decide +kernel
theorem dX9_erasable_18 : decode cX9_erasable 18 = .ok (.getfield 98, 3) := by decide +kernel
theorem dX9_erasable_21 : decode cX9_erasable 21 = .ok (.iconst 2, 1) := by decide +kernel
theorem dX9_erasable_22 : decode cX9_erasable 22 = .ok (.iload_n 1, 1) := by decide +kernel
theorem dX9_erasable_23 : decode cX9_erasable 23 = .ok (.invokevirtual 294, 3) := by decide +kernel
theorem dX9_erasable_26 : decode cX9_erasable 26 = .ok (.goto 4, 3) := by decide +kernel
theorem dX9_erasable_29 : decode cX9_erasable 29 = .ok (.iconst (-1), 1) := by decide +kernel
theorem dX9_erasable_30 : decode cX9_erasable 30 = .ok (.ireturn, 1) := by decide +kernel
theorem dX9_cost_0 : decode cX9_cost 0 = .ok (.aload_n 0, 1) := by decide +kernel
theorem dX9_cost_1 : decode cX9_cost 1 = .ok (.lload_n 1, 1) := by decide +kernel
theorem dX9_cost_2 : decode cX9_cost 2 = .ok (.invokevirtual 278, 3) := by decide +kernel
theorem dX9_cost_5 : decode cX9_cost 5 = .ok (.ifCond .eq 17, 3) := by decide +kernel
theorem dX9_cost_8 : decode cX9_cost 8 = .ok (.aload_n 0, 1) := by decide +kernel
theorem dX9_cost_9 : decode cX9_cost 9 = .ok (.getfield 19, 3) := by decide +kernel
theorem dX9_cost_12 : decode cX9_cost 12 = .ok (.getfield 89, 3) := by decide +kernel
theorem dX9_cost_15 : decode cX9_cost 15 = .ok (.lload_n 1, 1) := by decide +kernel
theorem dX9_cost_16 : decode cX9_cost 16 = .ok (.invokevirtual 311, 3) := by decide +kernel
theorem dX9_cost_19 : decode cX9_cost 19 = .ok (.goto 4, 3) := by decide +kernel
theorem dX9_cost_22 : decode cX9_cost 22 = .ok (.iconst (-1), 1) := by decide +kernel
theorem dX9_cost_23 : decode cX9_cost 23 = .ok (.ireturn, 1) := by decide +kernel
theorem dX9_likeliest_0 : decode cX9_likeliest 0 = .ok (.aload_n 0, 1) := by decide +kernel
theorem dX9_likeliest_1 : decode cX9_likeliest 1 = .ok (.getfield 50, 3) := by decide +kernel
theorem dX9_likeliest_4 : decode cX9_likeliest 4 = .ok (.aload_n 0, 1) := by decide +kernel
theorem dX9_likeliest_5 : decode cX9_likeliest 5 = .ok (.getfield 19, 3) := by decide +kernel
theorem dX9_likeliest_8 : decode cX9_likeliest 8 = .ok (.getfield 89, 3) := by decide +kernel
theorem dX9_likeliest_11 : decode cX9_likeliest 11 = .ok (.getfield 98, 3) := by decide +kernel
theorem dX9_likeliest_14 : decode cX9_likeliest 14 = .ok (.invokevirtual 314, 3) := by decide +kernel
theorem dX9_likeliest_17 : decode cX9_likeliest 17 = .ok (.ifCond .ne 7, 3) := by decide +kernel
theorem dX9_likeliest_20 : decode cX9_likeliest 20 = .ok (.ldc2_w 309, 3) := by decide +kernel
theorem dX9_likeliest_23 : decode cX9_likeliest 23 = .ok (.lreturn, 1) := by decide +kernel
theorem dX9_likeliest_24 : decode cX9_likeliest 24 = .ok (.lconst 0, 1) := by decide +kernel
theorem dX9_likeliest_25 : decode cX9_likeliest 25 = .ok (.lstore_n 1, 1) := by decide +kernel
theorem dX9_likeliest_26 : decode cX9_likeliest 26 = .ok (.aload_n 0, 1) := by decide +kernel
theorem dX9_likeliest_27 : decode cX9_likeliest 27 = .ok (.getfield 19, 3) := by decide +kernel
theorem dX9_likeliest_30 : decode cX9_likeliest 30 = .ok (.getfield 89, 3) := by decide +kernel
theorem dX9_likeliest_33 : decode cX9_likeliest 33 = .ok (.lconst 0, 1) := by decide +kernel
theorem dX9_likeliest_34 : decode cX9_likeliest 34 = .ok (.invokevirtual 311, 3) := by decide +kernel
theorem dX9_likeliest_37 : decode cX9_likeliest 37 = .ok (.istore_n 3, 1) := by decide +kernel
theorem dX9_likeliest_38 : decode cX9_likeliest 38 = .ok (.iconst 0, 1) := by decide +kernel
theorem dX9_likeliest_39 : decode cX9_likeliest 39 = .ok (.istore 4, 2) := by decide +kernel
theorem dX9_likeliest_41 : decode cX9_likeliest 41 = .ok (.iload 4, 2) := by decide +kernel
theorem dX9_likeliest_43 : decode cX9_likeliest 43 = .ok (.aload_n 0, 1) := by decide +kernel
theorem dX9_likeliest_44 : decode cX9_likeliest 44 = .ok (.getfield 50, 3) := by decide +kernel
theorem dX9_likeliest_47 : decode cX9_likeliest 47 = .ok (.getfield 318, 3) := by decide +kernel
theorem dX9_likeliest_50 : decode cX9_likeliest 50 = .ok (.if_icmp .ge 52, 3) := by decide +kernel
theorem dX9_likeliest_53 : decode cX9_likeliest 53 = .ok (.aload_n 0, 1) := by decide +kernel
theorem dX9_likeliest_54 : decode cX9_likeliest 54 = .ok (.getfield 19, 3) := by decide +kernel
theorem dX9_likeliest_57 : decode cX9_likeliest 57 = .ok (.getfield 89, 3) := by decide +kernel
theorem dX9_likeliest_60 : decode cX9_likeliest 60 = .ok (.aload_n 0, 1) := by decide +kernel
theorem dX9_likeliest_61 : decode cX9_likeliest 61 = .ok (.getfield 50, 3) := by decide +kernel
theorem dX9_likeliest_64 : decode cX9_likeliest 64 = .ok (.getfield 321, 3) := by decide +kernel
theorem dX9_likeliest_67 : decode cX9_likeliest 67 = .ok (.invokevirtual 311, 3) := by decide +kernel
theorem dX9_likeliest_70 : decode cX9_likeliest 70 = .ok (.istore 5, 2) := by decide +kernel
theorem dX9_likeliest_72 : decode cX9_likeliest 72 = .ok (.iload 5, 2) := by decide +kernel
theorem dX9_likeliest_74 : decode cX9_likeliest 74 = .ok (.iload_n 3, 1) := by decide +kernel
theorem dX9_likeliest_75 : decode cX9_likeliest 75 = .ok (.if_icmp .ge 14, 3) := by decide +kernel
theorem dX9_likeliest_78 : decode cX9_likeliest 78 = .ok (.iload 5, 2) := by decide +kernel
theorem dX9_likeliest_80 : decode cX9_likeliest 80 = .ok (.istore_n 3, 1) := by decide +kernel
theorem dX9_likeliest_81 : decode cX9_likeliest 81 = .ok (.aload_n 0, 1) := by decide +kernel
theorem dX9_likeliest_82 : decode cX9_likeliest 82 = .ok (.getfield 50, 3) := by decide +kernel
theorem dX9_likeliest_85 : decode cX9_likeliest 85 = .ok (.getfield 321, 3) := by decide +kernel
theorem dX9_likeliest_88 : decode cX9_likeliest 88 = .ok (.lstore_n 1, 1) := by decide +kernel
theorem dX9_likeliest_89 : decode cX9_likeliest 89 = .ok (.aload_n 0, 1) := by decide +kernel
theorem dX9_likeliest_90 : decode cX9_likeliest 90 = .ok (.getfield 50, 3) := by decide +kernel
theorem dX9_likeliest_93 : decode cX9_likeliest 93 = .ok (.invokevirtual 324, 3) := by decide +kernel
theorem dX9_likeliest_96 : decode cX9_likeliest 96 = .ok (.iinc 4 1, 3) := by decide +kernel
theorem dX9_likeliest_99 : decode cX9_likeliest 99 = .ok (.goto (-58), 3) := by decide +kernel
theorem dX9_likeliest_102 : decode cX9_likeliest 102 = .ok (.lload_n 1, 1) := by decide +kernel
theorem dX9_likeliest_103 : decode cX9_likeliest 103 = .ok (.lreturn, 1) := by decide +kernel
theorem dX9_lightest_0 : decode cX9_lightest 0 = .ok (.aload_n 0, 1) := by decide +kernel
theorem dX9_lightest_1 : decode cX9_lightest 1 = .ok (.getfield 50, 3) := by decide +kernel
theorem dX9_lightest_4 : decode cX9_lightest 4 = .ok (.aload_n 0, 1) := by decide +kernel
theorem dX9_lightest_5 : decode cX9_lightest 5 = .ok (.getfield 19, 3) := by decide +kernel
theorem dX9_lightest_8 : decode cX9_lightest 8 = .ok (.getfield 89, 3) := by decide +kernel
theorem dX9_lightest_11 : decode cX9_lightest 11 = .ok (.getfield 98, 3) := by decide +kernel
theorem dX9_lightest_14 : decode cX9_lightest 14 = .ok (.invokevirtual 314, 3) := by decide +kernel
theorem dX9_lightest_17 : decode cX9_lightest 17 = .ok (.ifCond .ne 5, 3) := by decide +kernel
theorem dX9_lightest_20 : decode cX9_lightest 20 = .ok (.iconst (-1), 1) := by decide +kernel
theorem dX9_lightest_21 : decode cX9_lightest 21 = .ok (.ireturn, 1) := by decide +kernel
theorem dX9_lightest_22 : decode cX9_lightest 22 = .ok (.iconst (-1), 1) := by decide +kernel
theorem dX9_lightest_23 : decode cX9_lightest 23 = .ok (.istore_n 1, 1) := by decide +kernel
theorem dX9_lightest_24 : decode cX9_lightest 24 = .ok (.iconst 0, 1) := by decide +kernel
theorem dX9_lightest_25 : decode cX9_lightest 25 = .ok (.istore_n 2, 1) := by decide +kernel
theorem dX9_lightest_26 : decode cX9_lightest 26 = .ok (.iload_n 2, 1) := by decide +kernel
theorem dX9_lightest_27 : decode cX9_lightest 27 = .ok (.aload_n 0, 1) := by decide +kernel
theorem dX9_lightest_28 : decode cX9_lightest 28 = .ok (.getfield 50, 3) := by decide +kernel
theorem dX9_lightest_31 : decode cX9_lightest 31 = .ok (.getfield 318, 3) := by decide +kernel
theorem dX9_lightest_34 : decode cX9_lightest 34 = .ok (.if_icmp .ge 43, 3) := by decide +kernel
theorem dX9_lightest_37 : decode cX9_lightest 37 = .ok (.aload_n 0, 1) := by decide +kernel
theorem dX9_lightest_38 : decode cX9_lightest 38 = .ok (.getfield 50, 3) := by decide +kernel
theorem dX9_lightest_41 : decode cX9_lightest 41 = .ok (.getfield 321, 3) := by decide +kernel
theorem dX9_lightest_44 : decode cX9_lightest 44 = .ok (.invokestatic 113, 3) := by decide +kernel
theorem dX9_lightest_47 : decode cX9_lightest 47 = .ok (.istore_n 3, 1) := by decide +kernel
theorem dX9_lightest_48 : decode cX9_lightest 48 = .ok (.iload_n 3, 1) := by decide +kernel
theorem dX9_lightest_49 : decode cX9_lightest 49 = .ok (.ifCond .le 15, 3) := by decide +kernel
theorem dX9_lightest_52 : decode cX9_lightest 52 = .ok (.iload_n 1, 1) := by decide +kernel
theorem dX9_lightest_53 : decode cX9_lightest 53 = .ok (.iconst (-1), 1) := by decide +kernel
theorem dX9_lightest_54 : decode cX9_lightest 54 = .ok (.if_icmp .eq 8, 3) := by decide +kernel
theorem dX9_lightest_57 : decode cX9_lightest 57 = .ok (.iload_n 3, 1) := by decide +kernel
theorem dX9_lightest_58 : decode cX9_lightest 58 = .ok (.iload_n 1, 1) := by decide +kernel
theorem dX9_lightest_59 : decode cX9_lightest 59 = .ok (.if_icmp .ge 5, 3) := by decide +kernel
theorem dX9_lightest_62 : decode cX9_lightest 62 = .ok (.iload_n 3, 1) := by decide +kernel
theorem dX9_lightest_63 : decode cX9_lightest 63 = .ok (.istore_n 1, 1) := by decide +kernel
theorem dX9_lightest_64 : decode cX9_lightest 64 = .ok (.aload_n 0, 1) := by decide +kernel
theorem dX9_lightest_65 : decode cX9_lightest 65 = .ok (.getfield 50, 3) := by decide +kernel
theorem dX9_lightest_68 : decode cX9_lightest 68 = .ok (.invokevirtual 324, 3) := by decide +kernel
theorem dX9_lightest_71 : decode cX9_lightest 71 = .ok (.iinc 2 1, 3) := by decide +kernel
theorem dX9_lightest_74 : decode cX9_lightest 74 = .ok (.goto (-48), 3) := by decide +kernel
theorem dX9_lightest_77 : decode cX9_lightest 77 = .ok (.iload_n 1, 1) := by decide +kernel
theorem dX9_lightest_78 : decode cX9_lightest 78 = .ok (.ireturn, 1) := by decide +kernel
theorem dX9_spectrum_0 : decode cX9_spectrum 0 = .ok (.iload_n 1, 1) := by decide +kernel
theorem dX9_spectrum_1 : decode cX9_spectrum 1 = .ok (.ifCond .lt 23, 3) := by decide +kernel
theorem dX9_spectrum_4 : decode cX9_spectrum 4 = .ok (.aload_n 0, 1) := by decide +kernel
theorem dX9_spectrum_5 : decode cX9_spectrum 5 = .ok (.getfield 50, 3) := by decide +kernel
theorem dX9_spectrum_8 : decode cX9_spectrum 8 = .ok (.aload_n 0, 1) := by decide +kernel
theorem dX9_spectrum_9 : decode cX9_spectrum 9 = .ok (.getfield 19, 3) := by decide +kernel
theorem dX9_spectrum_12 : decode cX9_spectrum 12 = .ok (.getfield 89, 3) := by decide +kernel
theorem dX9_spectrum_15 : decode cX9_spectrum 15 = .ok (.getfield 98, 3) := by decide +kernel
theorem dX9_spectrum_18 : decode cX9_spectrum 18 = .ok (.invokevirtual 314, 3) := by decide +kernel
theorem dX9_spectrum_21 : decode cX9_spectrum 21 = .ok (.ifCond .ne 5, 3) := by decide +kernel
theorem dX9_spectrum_24 : decode cX9_spectrum 24 = .ok (.iconst (-1), 1) := by decide +kernel
theorem dX9_spectrum_25 : decode cX9_spectrum 25 = .ok (.ireturn, 1) := by decide +kernel
theorem dX9_spectrum_26 : decode cX9_spectrum 26 = .ok (.iconst 0, 1) := by decide +kernel
theorem dX9_spectrum_27 : decode cX9_spectrum 27 = .ok (.istore_n 2, 1) := by decide +kernel
theorem dX9_spectrum_28 : decode cX9_spectrum 28 = .ok (.iconst 0, 1) := by decide +kernel
theorem dX9_spectrum_29 : decode cX9_spectrum 29 = .ok (.istore_n 3, 1) := by decide +kernel
theorem dX9_spectrum_30 : decode cX9_spectrum 30 = .ok (.iload_n 3, 1) := by decide +kernel
theorem dX9_spectrum_31 : decode cX9_spectrum 31 = .ok (.aload_n 0, 1) := by decide +kernel
theorem dX9_spectrum_32 : decode cX9_spectrum 32 = .ok (.getfield 50, 3) := by decide +kernel
theorem dX9_spectrum_35 : decode cX9_spectrum 35 = .ok (.getfield 318, 3) := by decide +kernel
theorem dX9_spectrum_38 : decode cX9_spectrum 38 = .ok (.if_icmp .ge 33, 3) := by decide +kernel
theorem dX9_spectrum_41 : decode cX9_spectrum 41 = .ok (.aload_n 0, 1) := by decide +kernel
theorem dX9_spectrum_42 : decode cX9_spectrum 42 = .ok (.getfield 50, 3) := by decide +kernel
theorem dX9_spectrum_45 : decode cX9_spectrum 45 = .ok (.getfield 321, 3) := by decide +kernel
theorem dX9_spectrum_48 : decode cX9_spectrum 48 = .ok (.invokestatic 113, 3) := by decide +kernel
theorem dX9_spectrum_51 : decode cX9_spectrum 51 = .ok (.iload_n 1, 1) := by decide +kernel
theorem dX9_spectrum_52 : decode cX9_spectrum 52 = .ok (.if_icmp .ne 6, 3) := by decide +kernel
theorem dX9_spectrum_55 : decode cX9_spectrum 55 = .ok (.iinc 2 1, 3) := by decide +kernel
theorem dX9_spectrum_58 : decode cX9_spectrum 58 = .ok (.aload_n 0, 1) := by decide +kernel
theorem dX9_spectrum_59 : decode cX9_spectrum 59 = .ok (.getfield 50, 3) := by decide +kernel
theorem dX9_spectrum_62 : decode cX9_spectrum 62 = .ok (.invokevirtual 324, 3) := by decide +kernel
theorem dX9_spectrum_65 : decode cX9_spectrum 65 = .ok (.iinc 3 1, 3) := by decide +kernel
theorem dX9_spectrum_68 : decode cX9_spectrum 68 = .ok (.goto (-38), 3) := by decide +kernel
theorem dX9_spectrum_71 : decode cX9_spectrum 71 = .ok (.iload_n 2, 1) := by decide +kernel
theorem dX9_spectrum_72 : decode cX9_spectrum 72 = .ok (.ireturn, 1) := by decide +kernel
theorem dX9_nearest_0 : decode cX9_nearest 0 = .ok (.aload_n 0, 1) := by decide +kernel
theorem dX9_nearest_1 : decode cX9_nearest 1 = .ok (.getfield 50, 3) := by decide +kernel
theorem dX9_nearest_4 : decode cX9_nearest 4 = .ok (.aload_n 0, 1) := by decide +kernel
theorem dX9_nearest_5 : decode cX9_nearest 5 = .ok (.getfield 19, 3) := by decide +kernel
theorem dX9_nearest_8 : decode cX9_nearest 8 = .ok (.getfield 89, 3) := by decide +kernel
theorem dX9_nearest_11 : decode cX9_nearest 11 = .ok (.getfield 98, 3) := by decide +kernel
theorem dX9_nearest_14 : decode cX9_nearest 14 = .ok (.invokevirtual 314, 3) := by decide +kernel
theorem dX9_nearest_17 : decode cX9_nearest 17 = .ok (.ifCond .ne 7, 3) := by decide +kernel
theorem dX9_nearest_20 : decode cX9_nearest 20 = .ok (.ldc2_w 309, 3) := by decide +kernel
theorem dX9_nearest_23 : decode cX9_nearest 23 = .ok (.lreturn, 1) := by decide +kernel
theorem dX9_nearest_24 : decode cX9_nearest 24 = .ok (.lconst 0, 1) := by decide +kernel
theorem dX9_nearest_25 : decode cX9_nearest 25 = .ok (.lstore_n 1, 1) := by decide +kernel
theorem dX9_nearest_26 : decode cX9_nearest 26 = .ok (.aload_n 0, 1) := by decide +kernel
theorem dX9_nearest_27 : decode cX9_nearest 27 = .ok (.getfield 19, 3) := by decide +kernel
theorem dX9_nearest_30 : decode cX9_nearest 30 = .ok (.getfield 89, 3) := by decide +kernel
theorem dX9_nearest_33 : decode cX9_nearest 33 = .ok (.getfield 229, 3) := by decide +kernel
theorem dX9_nearest_36 : decode cX9_nearest 36 = .ok (.invokestatic 113, 3) := by decide +kernel
theorem dX9_nearest_39 : decode cX9_nearest 39 = .ok (.istore_n 3, 1) := by decide +kernel
theorem dX9_nearest_40 : decode cX9_nearest 40 = .ok (.iconst 0, 1) := by decide +kernel
theorem dX9_nearest_41 : decode cX9_nearest 41 = .ok (.istore 4, 2) := by decide +kernel
theorem dX9_nearest_43 : decode cX9_nearest 43 = .ok (.iload 4, 2) := by decide +kernel
theorem dX9_nearest_45 : decode cX9_nearest 45 = .ok (.aload_n 0, 1) := by decide +kernel
theorem dX9_nearest_46 : decode cX9_nearest 46 = .ok (.getfield 50, 3) := by decide +kernel
theorem dX9_nearest_49 : decode cX9_nearest 49 = .ok (.getfield 318, 3) := by decide +kernel
theorem dX9_nearest_52 : decode cX9_nearest 52 = .ok (.if_icmp .ge 56, 3) := by decide +kernel
theorem dX9_nearest_55 : decode cX9_nearest 55 = .ok (.aload_n 0, 1) := by decide +kernel
theorem dX9_nearest_56 : decode cX9_nearest 56 = .ok (.getfield 50, 3) := by decide +kernel
theorem dX9_nearest_59 : decode cX9_nearest 59 = .ok (.getfield 321, 3) := by decide +kernel
theorem dX9_nearest_62 : decode cX9_nearest 62 = .ok (.aload_n 0, 1) := by decide +kernel
theorem dX9_nearest_63 : decode cX9_nearest 63 = .ok (.getfield 19, 3) := by decide +kernel
theorem dX9_nearest_66 : decode cX9_nearest 66 = .ok (.getfield 89, 3) := by decide +kernel
theorem dX9_nearest_69 : decode cX9_nearest 69 = .ok (.getfield 229, 3) := by decide +kernel
theorem dX9_nearest_72 : decode cX9_nearest 72 = .ok (.lxor, 1) := by decide +kernel
theorem dX9_nearest_73 : decode cX9_nearest 73 = .ok (.invokestatic 113, 3) := by decide +kernel
theorem dX9_nearest_76 : decode cX9_nearest 76 = .ok (.istore 5, 2) := by decide +kernel
theorem dX9_nearest_78 : decode cX9_nearest 78 = .ok (.iload 5, 2) := by decide +kernel
theorem dX9_nearest_80 : decode cX9_nearest 80 = .ok (.iload_n 3, 1) := by decide +kernel
theorem dX9_nearest_81 : decode cX9_nearest 81 = .ok (.if_icmp .ge 14, 3) := by decide +kernel
theorem dX9_nearest_84 : decode cX9_nearest 84 = .ok (.iload 5, 2) := by decide +kernel
theorem dX9_nearest_86 : decode cX9_nearest 86 = .ok (.istore_n 3, 1) := by decide +kernel
theorem dX9_nearest_87 : decode cX9_nearest 87 = .ok (.aload_n 0, 1) := by decide +kernel
theorem dX9_nearest_88 : decode cX9_nearest 88 = .ok (.getfield 50, 3) := by decide +kernel
theorem dX9_nearest_91 : decode cX9_nearest 91 = .ok (.getfield 321, 3) := by decide +kernel
theorem dX9_nearest_94 : decode cX9_nearest 94 = .ok (.lstore_n 1, 1) := by decide +kernel
theorem dX9_nearest_95 : decode cX9_nearest 95 = .ok (.aload_n 0, 1) := by decide +kernel
theorem dX9_nearest_96 : decode cX9_nearest 96 = .ok (.getfield 50, 3) := by decide +kernel
theorem dX9_nearest_99 : decode cX9_nearest 99 = .ok (.invokevirtual 324, 3) := by decide +kernel
theorem dX9_nearest_102 : decode cX9_nearest 102 = .ok (.iinc 4 1, 3) := by decide +kernel
theorem dX9_nearest_105 : decode cX9_nearest 105 = .ok (.goto (-62), 3) := by decide +kernel
theorem dX9_nearest_108 : decode cX9_nearest 108 = .ok (.lload_n 1, 1) := by decide +kernel
theorem dX9_nearest_109 : decode cX9_nearest 109 = .ok (.lreturn, 1) := by decide +kernel
theorem dX9_pipe_0 : decode cX9_pipe 0 = .ok (.aload_n 0, 1) := by decide +kernel
theorem dX9_pipe_1 : decode cX9_pipe 1 = .ok (.iload_n 1, 1) := by decide +kernel
theorem dX9_pipe_2 : decode cX9_pipe 2 = .ok (.invokevirtual 153, 3) := by decide +kernel
theorem dX9_pipe_5 : decode cX9_pipe 5 = .ok (.ifCond .eq 19, 3) := by decide +kernel
theorem dX9_pipe_8 : decode cX9_pipe 8 = .ok (.iload_n 2, 1) := by decide +kernel
theorem dX9_pipe_9 : decode cX9_pipe 9 = .ok (.invokestatic 327, 3) := by decide +kernel
theorem dX9_pipe_12 : decode cX9_pipe 12 = .ok (.ifCond .eq 12, 3) := by decide +kernel
theorem dX9_pipe_15 : decode cX9_pipe 15 = .ok (.iload_n 3, 1) := by decide +kernel
theorem dX9_pipe_16 : decode cX9_pipe 16 = .ok (.ifCond .lt 8, 3) := by decide +kernel
theorem dX9_pipe_19 : decode cX9_pipe 19 = .ok (.iload_n 3, 1) := by decide +kernel
theorem dX9_pipe_20 : decode cX9_pipe 20 = .ok (.iconst 1, 1) := by decide +kernel
theorem dX9_pipe_21 : decode cX9_pipe 21 = .ok (.if_icmp .le 5, 3) := by decide +kernel
theorem dX9_pipe_24 : decode cX9_pipe 24 = .ok (.iconst (-1), 1) := by decide +kernel
theorem dX9_pipe_25 : decode cX9_pipe 25 = .ok (.ireturn, 1) := by decide +kernel
theorem dX9_pipe_26 : decode cX9_pipe 26 = .ok (.aload_n 0, 1) := by decide +kernel
theorem dX9_pipe_27 : decode cX9_pipe 27 = .ok (.getfield 57, 3) := by decide +kernel
theorem dX9_pipe_30 : decode cX9_pipe 30 = .ok (.aload_n 0, 1) := by decide +kernel
theorem dX9_pipe_31 : decode cX9_pipe 31 = .ok (.getfield 19, 3) := by decide +kernel
theorem dX9_pipe_34 : decode cX9_pipe 34 = .ok (.getfield 89, 3) := by decide +kernel
theorem dX9_pipe_37 : decode cX9_pipe 37 = .ok (.getfield 98, 3) := by decide +kernel
theorem dX9_pipe_40 : decode cX9_pipe 40 = .ok (.iload_n 1, 1) := by decide +kernel
theorem dX9_pipe_41 : decode cX9_pipe 41 = .ok (.iload_n 2, 1) := by decide +kernel
theorem dX9_pipe_42 : decode cX9_pipe 42 = .ok (.invokevirtual 330, 3) := by decide +kernel
theorem dX9_pipe_45 : decode cX9_pipe 45 = .ok (.iload_n 3, 1) := by decide +kernel
theorem dX9_pipe_46 : decode cX9_pipe 46 = .ok (.ifCond .ne 13, 3) := by decide +kernel
theorem dX9_pipe_49 : decode cX9_pipe 49 = .ok (.aload_n 0, 1) := by decide +kernel
theorem dX9_pipe_50 : decode cX9_pipe 50 = .ok (.getfield 57, 3) := by decide +kernel
theorem dX9_pipe_53 : decode cX9_pipe 53 = .ok (.getfield 334, 3) := by decide +kernel
theorem dX9_pipe_56 : decode cX9_pipe 56 = .ok (.goto 10, 3) := by decide +kernel
theorem dX9_pipe_59 : decode cX9_pipe 59 = .ok (.aload_n 0, 1) := by decide +kernel
theorem dX9_pipe_60 : decode cX9_pipe 60 = .ok (.getfield 57, 3) := by decide +kernel
theorem dX9_pipe_63 : decode cX9_pipe 63 = .ok (.getfield 337, 3) := by decide +kernel
theorem dX9_pipe_66 : decode cX9_pipe 66 = .ok (.ireturn, 1) := by decide +kernel
theorem dX9_quietest_0 : decode cX9_quietest 0 = .ok (.iload_n 1, 1) := by decide +kernel
theorem dX9_quietest_1 : decode cX9_quietest 1 = .ok (.invokestatic 327, 3) := by decide +kernel
theorem dX9_quietest_4 : decode cX9_quietest 4 = .ok (.ifCond .ne 5, 3) := by decide +kernel
theorem dX9_quietest_7 : decode cX9_quietest 7 = .ok (.iconst (-1), 1) := by decide +kernel
theorem dX9_quietest_8 : decode cX9_quietest 8 = .ok (.ireturn, 1) := by decide +kernel
theorem dX9_quietest_9 : decode cX9_quietest 9 = .ok (.aload_n 0, 1) := by decide +kernel
theorem dX9_quietest_10 : decode cX9_quietest 10 = .ok (.getfield 19, 3) := by decide +kernel
theorem dX9_quietest_13 : decode cX9_quietest 13 = .ok (.getfield 89, 3) := by decide +kernel
theorem dX9_quietest_16 : decode cX9_quietest 16 = .ok (.getfield 98, 3) := by decide +kernel
theorem dX9_quietest_19 : decode cX9_quietest 19 = .ok (.astore_n 2, 1) := by decide +kernel
theorem dX9_quietest_20 : decode cX9_quietest 20 = .ok (.iconst 0, 1) := by decide +kernel
theorem dX9_quietest_21 : decode cX9_quietest 21 = .ok (.istore_n 3, 1) := by decide +kernel
theorem dX9_quietest_22 : decode cX9_quietest 22 = .ok (.sipush 1000, 3) := by decide +kernel
theorem dX9_quietest_25 : decode cX9_quietest 25 = .ok (.istore 4, 2) := by decide +kernel
theorem dX9_quietest_27 : decode cX9_quietest 27 = .ok (.iconst 0, 1) := by decide +kernel
theorem dX9_quietest_28 : decode cX9_quietest 28 = .ok (.istore 5, 2) := by decide +kernel
theorem dX9_quietest_30 : decode cX9_quietest 30 = .ok (.iload 5, 2) := by decide +kernel
theorem dX9_quietest_32 : decode cX9_quietest 32 = .ok (.aload_n 2, 1) := by decide +kernel
theorem dX9_quietest_33 : decode cX9_quietest 33 = .ok (.getfield 126, 3) := by decide +kernel
theorem dX9_quietest_36 : decode cX9_quietest 36 = .ok (.invokestatic 340, 3) := by decide +kernel
theorem dX9_quietest_39 : decode cX9_quietest 39 = .ok (.if_icmp .ge 44, 3) := by decide +kernel
theorem dX9_quietest_42 : decode cX9_quietest 42 = .ok (.aload_n 0, 1) := by decide +kernel
theorem dX9_quietest_43 : decode cX9_quietest 43 = .ok (.getfield 57, 3) := by decide +kernel
theorem dX9_quietest_46 : decode cX9_quietest 46 = .ok (.aload_n 2, 1) := by decide +kernel
theorem dX9_quietest_47 : decode cX9_quietest 47 = .ok (.iload 5, 2) := by decide +kernel
theorem dX9_quietest_49 : decode cX9_quietest 49 = .ok (.iload_n 1, 1) := by decide +kernel
theorem dX9_quietest_50 : decode cX9_quietest 50 = .ok (.invokevirtual 330, 3) := by decide +kernel
theorem dX9_quietest_53 : decode cX9_quietest 53 = .ok (.aload_n 0, 1) := by decide +kernel
theorem dX9_quietest_54 : decode cX9_quietest 54 = .ok (.getfield 57, 3) := by decide +kernel
theorem dX9_quietest_57 : decode cX9_quietest 57 = .ok (.getfield 334, 3) := by decide +kernel
theorem dX9_quietest_60 : decode cX9_quietest 60 = .ok (.iload 4, 2) := by decide +kernel
theorem dX9_quietest_62 : decode cX9_quietest 62 = .ok (.if_icmp .ge 15, 3) := by decide +kernel
theorem dX9_quietest_65 : decode cX9_quietest 65 = .ok (.aload_n 0, 1) := by decide +kernel
theorem dX9_quietest_66 : decode cX9_quietest 66 = .ok (.getfield 57, 3) := by decide +kernel
theorem dX9_quietest_69 : decode cX9_quietest 69 = .ok (.getfield 334, 3) := by decide +kernel
theorem dX9_quietest_72 : decode cX9_quietest 72 = .ok (.istore 4, 2) := by decide +kernel
theorem dX9_quietest_74 : decode cX9_quietest 74 = .ok (.iload 5, 2) := by decide +kernel
theorem dX9_quietest_76 : decode cX9_quietest 76 = .ok (.istore_n 3, 1) := by decide +kernel
theorem dX9_quietest_77 : decode cX9_quietest 77 = .ok (.iinc 5 1, 3) := by decide +kernel
theorem dX9_quietest_80 : decode cX9_quietest 80 = .ok (.goto (-50), 3) := by decide +kernel
theorem dX9_quietest_83 : decode cX9_quietest 83 = .ok (.iload_n 3, 1) := by decide +kernel
theorem dX9_quietest_84 : decode cX9_quietest 84 = .ok (.ireturn, 1) := by decide +kernel
theorem dX9_clashes_0 : decode cX9_clashes 0 = .ok (.aload_n 0, 1) := by decide +kernel
theorem dX9_clashes_1 : decode cX9_clashes 1 = .ok (.iload_n 1, 1) := by decide +kernel
theorem dX9_clashes_2 : decode cX9_clashes 2 = .ok (.invokevirtual 153, 3) := by decide +kernel
theorem dX9_clashes_5 : decode cX9_clashes 5 = .ok (.ifCond .eq 24, 3) := by decide +kernel
theorem dX9_clashes_8 : decode cX9_clashes 8 = .ok (.aload_n 0, 1) := by decide +kernel
theorem dX9_clashes_9 : decode cX9_clashes 9 = .ok (.getfield 57, 3) := by decide +kernel
theorem dX9_clashes_12 : decode cX9_clashes 12 = .ok (.aload_n 0, 1) := by decide +kernel
theorem dX9_clashes_13 : decode cX9_clashes 13 = .ok (.getfield 19, 3) := by decide +kernel
theorem dX9_clashes_16 : decode cX9_clashes 16 = .ok (.getfield 89, 3) := by decide +kernel
theorem dX9_clashes_19 : decode cX9_clashes 19 = .ok (.getfield 98, 3) := by decide +kernel
theorem dX9_clashes_22 : decode cX9_clashes 22 = .ok (.iload_n 1, 1) := by decide +kernel
theorem dX9_clashes_23 : decode cX9_clashes 23 = .ok (.invokevirtual 343, 3) := by decide +kernel
theorem dX9_clashes_26 : decode cX9_clashes 26 = .ok (.goto 4, 3) := by decide +kernel
theorem dX9_clashes_29 : decode cX9_clashes 29 = .ok (.iconst (-1), 1) := by decide +kernel
theorem dX9_clashes_30 : decode cX9_clashes 30 = .ok (.ireturn, 1) := by decide +kernel
theorem dX9_calmest_0 : decode cX9_calmest 0 = .ok (.aload_n 0, 1) := by decide +kernel
theorem dX9_calmest_1 : decode cX9_calmest 1 = .ok (.getfield 19, 3) := by decide +kernel
theorem dX9_calmest_4 : decode cX9_calmest 4 = .ok (.getfield 89, 3) := by decide +kernel
theorem dX9_calmest_7 : decode cX9_calmest 7 = .ok (.getfield 98, 3) := by decide +kernel
theorem dX9_calmest_10 : decode cX9_calmest 10 = .ok (.astore_n 1, 1) := by decide +kernel
theorem dX9_calmest_11 : decode cX9_calmest 11 = .ok (.iconst 0, 1) := by decide +kernel
theorem dX9_calmest_12 : decode cX9_calmest 12 = .ok (.istore_n 2, 1) := by decide +kernel
theorem dX9_calmest_13 : decode cX9_calmest 13 = .ok (.sipush 1000, 3) := by decide +kernel
theorem dX9_calmest_16 : decode cX9_calmest 16 = .ok (.istore_n 3, 1) := by decide +kernel
theorem dX9_calmest_17 : decode cX9_calmest 17 = .ok (.iconst 0, 1) := by decide +kernel
theorem dX9_calmest_18 : decode cX9_calmest 18 = .ok (.istore 4, 2) := by decide +kernel
theorem dX9_calmest_20 : decode cX9_calmest 20 = .ok (.iload 4, 2) := by decide +kernel
theorem dX9_calmest_22 : decode cX9_calmest 22 = .ok (.aload_n 1, 1) := by decide +kernel
theorem dX9_calmest_23 : decode cX9_calmest 23 = .ok (.getfield 126, 3) := by decide +kernel
theorem dX9_calmest_26 : decode cX9_calmest 26 = .ok (.invokestatic 340, 3) := by decide +kernel
theorem dX9_calmest_29 : decode cX9_calmest 29 = .ok (.if_icmp .ge 33, 3) := by decide +kernel
theorem dX9_calmest_32 : decode cX9_calmest 32 = .ok (.aload_n 0, 1) := by decide +kernel
theorem dX9_calmest_33 : decode cX9_calmest 33 = .ok (.getfield 57, 3) := by decide +kernel
theorem dX9_calmest_36 : decode cX9_calmest 36 = .ok (.aload_n 1, 1) := by decide +kernel
theorem dX9_calmest_37 : decode cX9_calmest 37 = .ok (.iload 4, 2) := by decide +kernel
theorem dX9_calmest_39 : decode cX9_calmest 39 = .ok (.invokevirtual 343, 3) := by decide +kernel
theorem dX9_calmest_42 : decode cX9_calmest 42 = .ok (.istore 5, 2) := by decide +kernel
theorem dX9_calmest_44 : decode cX9_calmest 44 = .ok (.iload 5, 2) := by decide +kernel
theorem dX9_calmest_46 : decode cX9_calmest 46 = .ok (.iload_n 3, 1) := by decide +kernel
theorem dX9_calmest_47 : decode cX9_calmest 47 = .ok (.if_icmp .ge 9, 3) := by decide +kernel
theorem dX9_calmest_50 : decode cX9_calmest 50 = .ok (.iload 5, 2) := by decide +kernel
theorem dX9_calmest_52 : decode cX9_calmest 52 = .ok (.istore_n 3, 1) := by decide +kernel
theorem dX9_calmest_53 : decode cX9_calmest 53 = .ok (.iload 4, 2) := by decide +kernel
theorem dX9_calmest_55 : decode cX9_calmest 55 = .ok (.istore_n 2, 1) := by decide +kernel
theorem dX9_calmest_56 : decode cX9_calmest 56 = .ok (.iinc 4 1, 3) := by decide +kernel
theorem dX9_calmest_59 : decode cX9_calmest 59 = .ok (.goto (-39), 3) := by decide +kernel
theorem dX9_calmest_62 : decode cX9_calmest 62 = .ok (.iload_n 2, 1) := by decide +kernel
theorem dX9_calmest_63 : decode cX9_calmest 63 = .ok (.ireturn, 1) := by decide +kernel
theorem dX9_foretold_0 : decode cX9_foretold 0 = .ok (.iload_n 1, 1) := by decide +kernel
theorem dX9_foretold_1 : decode cX9_foretold 1 = .ok (.invokestatic 166, 3) := by decide +kernel
theorem dX9_foretold_4 : decode cX9_foretold 4 = .ok (.ifCond .ne 5, 3) := by decide +kernel
theorem dX9_foretold_7 : decode cX9_foretold 7 = .ok (.iconst (-1), 1) := by decide +kernel
theorem dX9_foretold_8 : decode cX9_foretold 8 = .ok (.ireturn, 1) := by decide +kernel
theorem dX9_foretold_9 : decode cX9_foretold 9 = .ok (.aload_n 0, 1) := by decide +kernel
theorem dX9_foretold_10 : decode cX9_foretold 10 = .ok (.getfield 36, 3) := by decide +kernel
theorem dX9_foretold_13 : decode cX9_foretold 13 = .ok (.aload_n 0, 1) := by decide +kernel
theorem dX9_foretold_14 : decode cX9_foretold 14 = .ok (.getfield 19, 3) := by decide +kernel
theorem dX9_foretold_17 : decode cX9_foretold 17 = .ok (.getfield 89, 3) := by decide +kernel
theorem dX9_foretold_20 : decode cX9_foretold 20 = .ok (.invokevirtual 347, 3) := by decide +kernel
theorem dX9_foretold_23 : decode cX9_foretold 23 = .ok (.aload_n 0, 1) := by decide +kernel
theorem dX9_foretold_24 : decode cX9_foretold 24 = .ok (.getfield 36, 3) := by decide +kernel
theorem dX9_foretold_27 : decode cX9_foretold 27 = .ok (.iload_n 1, 1) := by decide +kernel
theorem dX9_foretold_28 : decode cX9_foretold 28 = .ok (.invokevirtual 169, 3) := by decide +kernel
theorem dX9_foretold_31 : decode cX9_foretold 31 = .ok (.pop, 1) := by decide +kernel
theorem dX9_foretold_32 : decode cX9_foretold 32 = .ok (.aload_n 0, 1) := by decide +kernel
theorem dX9_foretold_33 : decode cX9_foretold 33 = .ok (.getfield 36, 3) := by decide +kernel
theorem dX9_foretold_36 : decode cX9_foretold 36 = .ok (.getfield 150, 3) := by decide +kernel
theorem dX9_foretold_39 : decode cX9_foretold 39 = .ok (.ireturn, 1) := by decide +kernel
theorem dX9_believed_0 : decode cX9_believed 0 = .ok (.iload_n 1, 1) := by decide +kernel
theorem dX9_believed_1 : decode cX9_believed 1 = .ok (.invokestatic 166, 3) := by decide +kernel
theorem dX9_believed_4 : decode cX9_believed 4 = .ok (.ifCond .eq 11, 3) := by decide +kernel
theorem dX9_believed_7 : decode cX9_believed 7 = .ok (.aload_n 0, 1) := by decide +kernel
theorem dX9_believed_8 : decode cX9_believed 8 = .ok (.iload_n 2, 1) := by decide +kernel
theorem dX9_believed_9 : decode cX9_believed 9 = .ok (.invokevirtual 129, 3) := by decide +kernel
theorem dX9_believed_12 : decode cX9_believed 12 = .ok (.ifCond .ne 6, 3) := by decide +kernel
theorem dX9_believed_15 : decode cX9_believed 15 = .ok (.bipush (-100), 2) := by decide +kernel
theorem dX9_believed_17 : decode cX9_believed 17 = .ok (.ireturn, 1) := by decide +kernel
theorem dX9_believed_18 : decode cX9_believed 18 = .ok (.aload_n 0, 1) := by decide +kernel
theorem dX9_believed_19 : decode cX9_believed 19 = .ok (.getfield 36, 3) := by decide +kernel
theorem dX9_believed_22 : decode cX9_believed 22 = .ok (.aload_n 0, 1) := by decide +kernel
theorem dX9_believed_23 : decode cX9_believed 23 = .ok (.getfield 19, 3) := by decide +kernel
theorem dX9_believed_26 : decode cX9_believed 26 = .ok (.getfield 89, 3) := by decide +kernel
theorem dX9_believed_29 : decode cX9_believed 29 = .ok (.invokevirtual 347, 3) := by decide +kernel
theorem dX9_believed_32 : decode cX9_believed 32 = .ok (.aload_n 0, 1) := by decide +kernel
theorem dX9_believed_33 : decode cX9_believed 33 = .ok (.getfield 36, 3) := by decide +kernel
theorem dX9_believed_36 : decode cX9_believed 36 = .ok (.iload_n 1, 1) := by decide +kernel
theorem dX9_believed_37 : decode cX9_believed 37 = .ok (.invokevirtual 169, 3) := by decide +kernel
theorem dX9_believed_40 : decode cX9_believed 40 = .ok (.pop, 1) := by decide +kernel
theorem dX9_believed_41 : decode cX9_believed 41 = .ok (.aload_n 0, 1) := by decide +kernel
theorem dX9_believed_42 : decode cX9_believed 42 = .ok (.getfield 36, 3) := by decide +kernel
theorem dX9_believed_45 : decode cX9_believed 45 = .ok (.getfield 226, 3) := by decide +kernel
theorem dX9_believed_48 : decode cX9_believed 48 = .ok (.iload_n 2, 1) := by decide +kernel
theorem dX9_believed_49 : decode cX9_believed 49 = .ok (.iaload, 1) := by decide +kernel
theorem dX9_believed_50 : decode cX9_believed 50 = .ok (.ireturn, 1) := by decide +kernel
theorem dX9_till_0 : decode cX9_till 0 = .ok (.aload_n 0, 1) := by decide +kernel
theorem dX9_till_1 : decode cX9_till 1 = .ok (.getfield 36, 3) := by decide +kernel
theorem dX9_till_4 : decode cX9_till 4 = .ok (.aload_n 0, 1) := by decide +kernel
theorem dX9_till_5 : decode cX9_till 5 = .ok (.getfield 19, 3) := by decide +kernel
theorem dX9_till_8 : decode cX9_till 8 = .ok (.getfield 89, 3) := by decide +kernel
theorem dX9_till_11 : decode cX9_till 11 = .ok (.invokevirtual 347, 3) := by decide +kernel
theorem dX9_till_14 : decode cX9_till 14 = .ok (.aload_n 0, 1) := by decide +kernel
theorem dX9_till_15 : decode cX9_till 15 = .ok (.getfield 36, 3) := by decide +kernel
theorem dX9_till_18 : decode cX9_till 18 = .ok (.bipush 80, 2) := by decide +kernel
theorem dX9_till_20 : decode cX9_till 20 = .ok (.invokevirtual 169, 3) := by decide +kernel
theorem dX9_till_23 : decode cX9_till 23 = .ok (.ireturn, 1) := by decide +kernel
theorem dX9_fewer_0 : decode cX9_fewer 0 = .ok (.aload_n 0, 1) := by decide +kernel
theorem dX9_fewer_1 : decode cX9_fewer 1 = .ok (.iconst 0, 1) := by decide +kernel
theorem dX9_fewer_2 : decode cX9_fewer 2 = .ok (.invokevirtual 351, 3) := by decide +kernel
theorem dX9_fewer_5 : decode cX9_fewer 5 = .ok (.istore_n 1, 1) := by decide +kernel
theorem dX9_fewer_6 : decode cX9_fewer 6 = .ok (.aload_n 0, 1) := by decide +kernel
theorem dX9_fewer_7 : decode cX9_fewer 7 = .ok (.iconst 1, 1) := by decide +kernel
theorem dX9_fewer_8 : decode cX9_fewer 8 = .ok (.invokevirtual 351, 3) := by decide +kernel
theorem dX9_fewer_11 : decode cX9_fewer 11 = .ok (.istore_n 2, 1) := by decide +kernel
theorem dX9_fewer_12 : decode cX9_fewer 12 = .ok (.iload_n 1, 1) := by decide +kernel
theorem dX9_fewer_13 : decode cX9_fewer 13 = .ok (.iconst (-1), 1) := by decide +kernel
theorem dX9_fewer_14 : decode cX9_fewer 14 = .ok (.if_icmp .ne 10, 3) := by decide +kernel
theorem dX9_fewer_17 : decode cX9_fewer 17 = .ok (.iload_n 2, 1) := by decide +kernel
theorem dX9_fewer_18 : decode cX9_fewer 18 = .ok (.iconst (-1), 1) := by decide +kernel
theorem dX9_fewer_19 : decode cX9_fewer 19 = .ok (.if_icmp .ne 5, 3) := by decide +kernel
theorem dX9_fewer_22 : decode cX9_fewer 22 = .ok (.iconst (-1), 1) := by decide +kernel
theorem dX9_fewer_23 : decode cX9_fewer 23 = .ok (.ireturn, 1) := by decide +kernel
theorem dX9_fewer_24 : decode cX9_fewer 24 = .ok (.iload_n 1, 1) := by decide +kernel
theorem dX9_fewer_25 : decode cX9_fewer 25 = .ok (.iconst (-1), 1) := by decide +kernel
theorem dX9_fewer_26 : decode cX9_fewer 26 = .ok (.if_icmp .ne 5, 3) := by decide +kernel
theorem dX9_fewer_29 : decode cX9_fewer 29 = .ok (.iconst 1, 1) := by decide +kernel
theorem dX9_fewer_30 : decode cX9_fewer 30 = .ok (.ireturn, 1) := by decide +kernel
theorem dX9_fewer_31 : decode cX9_fewer 31 = .ok (.iload_n 2, 1) := by decide +kernel
theorem dX9_fewer_32 : decode cX9_fewer 32 = .ok (.iconst (-1), 1) := by decide +kernel
theorem dX9_fewer_33 : decode cX9_fewer 33 = .ok (.if_icmp .eq 12, 3) := by decide +kernel
theorem dX9_fewer_36 : decode cX9_fewer 36 = .ok (.iload_n 2, 1) := by decide +kernel
theorem dX9_fewer_37 : decode cX9_fewer 37 = .ok (.iload_n 1, 1) := by decide +kernel
theorem dX9_fewer_38 : decode cX9_fewer 38 = .ok (.if_icmp .ge 7, 3) := by decide +kernel
theorem dX9_fewer_41 : decode cX9_fewer 41 = .ok (.iconst 1, 1) := by decide +kernel
theorem dX9_fewer_42 : decode cX9_fewer 42 = .ok (.goto 4, 3) := by decide +kernel
theorem dX9_fewer_45 : decode cX9_fewer 45 = .ok (.iconst 0, 1) := by decide +kernel
theorem dX9_fewer_46 : decode cX9_fewer 46 = .ok (.ireturn, 1) := by decide +kernel
theorem dX9_trials_0 : decode cX9_trials 0 = .ok (.iload_n 1, 1) := by decide +kernel
theorem dX9_trials_1 : decode cX9_trials 1 = .ok (.invokestatic 137, 3) := by decide +kernel
theorem dX9_trials_4 : decode cX9_trials 4 = .ok (.ifCond .eq 32, 3) := by decide +kernel
theorem dX9_trials_7 : decode cX9_trials 7 = .ok (.iload_n 2, 1) := by decide +kernel
theorem dX9_trials_8 : decode cX9_trials 8 = .ok (.invokestatic 140, 3) := by decide +kernel
theorem dX9_trials_11 : decode cX9_trials 11 = .ok (.ifCond .eq 25, 3) := by decide +kernel
theorem dX9_trials_14 : decode cX9_trials 14 = .ok (.iload_n 3, 1) := by decide +kernel
theorem dX9_trials_15 : decode cX9_trials 15 = .ok (.iconst 1, 1) := by decide +kernel
theorem dX9_trials_16 : decode cX9_trials 16 = .ok (.if_icmp .lt 20, 3) := by decide +kernel
theorem dX9_trials_19 : decode cX9_trials 19 = .ok (.iload_n 3, 1) := by decide +kernel
theorem dX9_trials_20 : decode cX9_trials 20 = .ok (.bipush 20, 2) := by decide +kernel
theorem dX9_trials_22 : decode cX9_trials 22 = .ok (.if_icmp .gt 14, 3) := by decide +kernel
theorem dX9_trials_25 : decode cX9_trials 25 = .ok (.iload 4, 2) := by decide +kernel
theorem dX9_trials_27 : decode cX9_trials 27 = .ok (.ifCond .lt 9, 3) := by decide +kernel
theorem dX9_trials_30 : decode cX9_trials 30 = .ok (.iload 4, 2) := by decide +kernel
theorem dX9_trials_32 : decode cX9_trials 32 = .ok (.iconst 3, 1) := by decide +kernel
theorem dX9_trials_33 : decode cX9_trials 33 = .ok (.if_icmp .le 5, 3) := by decide +kernel
theorem dX9_trials_36 : decode cX9_trials 36 = .ok (.iconst (-1), 1) := by decide +kernel
theorem dX9_trials_37 : decode cX9_trials 37 = .ok (.ireturn, 1) := by decide +kernel
theorem dX9_trials_38 : decode cX9_trials 38 = .ok (.iconst 0, 1) := by decide +kernel
theorem dX9_trials_39 : decode cX9_trials 39 = .ok (.istore 5, 2) := by decide +kernel
theorem dX9_trials_41 : decode cX9_trials 41 = .ok (.aload_n 0, 1) := by decide +kernel
theorem dX9_trials_42 : decode cX9_trials 42 = .ok (.getfield 36, 3) := by decide +kernel
theorem dX9_trials_45 : decode cX9_trials 45 = .ok (.aload_n 0, 1) := by decide +kernel
theorem dX9_trials_46 : decode cX9_trials 46 = .ok (.getfield 19, 3) := by decide +kernel
theorem dX9_trials_49 : decode cX9_trials 49 = .ok (.getfield 89, 3) := by decide +kernel
theorem dX9_trials_52 : decode cX9_trials 52 = .ok (.invokevirtual 347, 3) := by decide +kernel
theorem dX9_trials_55 : decode cX9_trials 55 = .ok (.iconst 0, 1) := by decide +kernel
theorem dX9_trials_56 : decode cX9_trials 56 = .ok (.istore 6, 2) := by decide +kernel
theorem dX9_trials_58 : decode cX9_trials 58 = .ok (.iload 6, 2) := by decide +kernel
theorem dX9_trials_60 : decode cX9_trials 60 = .ok (.iload_n 3, 1) := by decide +kernel
theorem dX9_trials_61 : decode cX9_trials 61 = .ok (.if_icmp .ge 79, 3) := by decide +kernel
theorem dX9_trials_64 : decode cX9_trials 64 = .ok (.aload_n 0, 1) := by decide +kernel
theorem dX9_trials_65 : decode cX9_trials 65 = .ok (.getfield 36, 3) := by decide +kernel
theorem dX9_trials_68 : decode cX9_trials 68 = .ok (.iload_n 1, 1) := by decide +kernel
theorem dX9_trials_69 : decode cX9_trials 69 = .ok (.iload_n 2, 1) := by decide +kernel
theorem dX9_trials_70 : decode cX9_trials 70 = .ok (.invokevirtual 143, 3) := by decide +kernel
theorem dX9_trials_73 : decode cX9_trials 73 = .ok (.pop, 1) := by decide +kernel
theorem dX9_trials_74 : decode cX9_trials 74 = .ok (.aload_n 0, 1) := by decide +kernel
theorem dX9_trials_75 : decode cX9_trials 75 = .ok (.getfield 36, 3) := by decide +kernel
theorem dX9_trials_78 : decode cX9_trials 78 = .ok (.aload_n 0, 1) := by decide +kernel
theorem dX9_trials_79 : decode cX9_trials 79 = .ok (.getfield 36, 3) := by decide +kernel
theorem dX9_trials_82 : decode cX9_trials 82 = .ok (.getfield 163, 3) := by decide +kernel
theorem dX9_trials_85 : decode cX9_trials 85 = .ok (.invokevirtual 147, 3) := by decide +kernel
theorem dX9_trials_88 : decode cX9_trials 88 = .ok (.aload_n 0, 1) := by decide +kernel
theorem dX9_trials_89 : decode cX9_trials 89 = .ok (.getfield 36, 3) := by decide +kernel
theorem dX9_trials_92 : decode cX9_trials 92 = .ok (.bipush 80, 2) := by decide +kernel
theorem dX9_trials_94 : decode cX9_trials 94 = .ok (.invokevirtual 169, 3) := by decide +kernel
theorem dX9_trials_97 : decode cX9_trials 97 = .ok (.pop, 1) := by decide +kernel
theorem dX9_trials_98 : decode cX9_trials 98 = .ok (.iload 4, 2) := by decide +kernel
theorem dX9_trials_100 : decode cX9_trials 100 = .ok (.iconst 3, 1) := by decide +kernel
theorem dX9_trials_101 : decode cX9_trials 101 = .ok (.if_icmp .ne 18, 3) := by decide +kernel
theorem dX9_trials_104 : decode cX9_trials 104 = .ok (.iload 5, 2) := by decide +kernel
theorem dX9_trials_106 : decode cX9_trials 106 = .ok (.aload_n 0, 1) := by decide +kernel
theorem dX9_trials_107 : decode cX9_trials 107 = .ok (.getfield 36, 3) := by decide +kernel
theorem dX9_trials_110 : decode cX9_trials 110 = .ok (.getfield 196, 3) := by decide +kernel
theorem dX9_trials_113 : decode cX9_trials 113 = .ok (.iadd, 1) := by decide +kernel
theorem dX9_trials_114 : decode cX9_trials 114 = .ok (.istore 5, 2) := by decide +kernel
theorem dX9_trials_116 : decode cX9_trials 116 = .ok (.goto 18, 3) := by decide +kernel
theorem dX9_trials_119 : decode cX9_trials 119 = .ok (.aload_n 0, 1) := by decide +kernel
theorem dX9_trials_120 : decode cX9_trials 120 = .ok (.getfield 36, 3) := by decide +kernel
theorem dX9_trials_123 : decode cX9_trials 123 = .ok (.invokevirtual 354, 3) := by decide +kernel
theorem dX9_trials_126 : decode cX9_trials 126 = .ok (.iload 4, 2) := by decide +kernel
theorem dX9_trials_128 : decode cX9_trials 128 = .ok (.if_icmp .ne 6, 3) := by decide +kernel
theorem dX9_trials_131 : decode cX9_trials 131 = .ok (.iinc 5 1, 3) := by decide +kernel
theorem dX9_trials_134 : decode cX9_trials 134 = .ok (.iinc 6 1, 3) := by decide +kernel
theorem dX9_trials_137 : decode cX9_trials 137 = .ok (.goto (-79), 3) := by decide +kernel
theorem dX9_trials_140 : decode cX9_trials 140 = .ok (.iload 5, 2) := by decide +kernel
theorem dX9_trials_142 : decode cX9_trials 142 = .ok (.ireturn, 1) := by decide +kernel
theorem dX9_mean_0 : decode cX9_mean 0 = .ok (.iconst 0, 1) := by decide +kernel
theorem dX9_mean_1 : decode cX9_mean 1 = .ok (.istore_n 1, 1) := by decide +kernel
theorem dX9_mean_2 : decode cX9_mean 2 = .ok (.iconst 0, 1) := by decide +kernel
theorem dX9_mean_3 : decode cX9_mean 3 = .ok (.istore_n 2, 1) := by decide +kernel
theorem dX9_mean_4 : decode cX9_mean 4 = .ok (.iload_n 2, 1) := by decide +kernel
theorem dX9_mean_5 : decode cX9_mean 5 = .ok (.aload_n 0, 1) := by decide +kernel
theorem dX9_mean_6 : decode cX9_mean 6 = .ok (.getfield 19, 3) := by decide +kernel
theorem dX9_mean_9 : decode cX9_mean 9 = .ok (.getfield 89, 3) := by decide +kernel
theorem dX9_mean_12 : decode cX9_mean 12 = .ok (.getfield 98, 3) := by decide +kernel
theorem dX9_mean_15 : decode cX9_mean 15 = .ok (.getfield 95, 3) := by decide +kernel
theorem dX9_mean_18 : decode cX9_mean 18 = .ok (.if_icmp .ge 27, 3) := by decide +kernel
theorem dX9_mean_21 : decode cX9_mean 21 = .ok (.iload_n 1, 1) := by decide +kernel
theorem dX9_mean_22 : decode cX9_mean 22 = .ok (.aload_n 0, 1) := by decide +kernel
theorem dX9_mean_23 : decode cX9_mean 23 = .ok (.getfield 19, 3) := by decide +kernel
theorem dX9_mean_26 : decode cX9_mean 26 = .ok (.getfield 89, 3) := by decide +kernel
theorem dX9_mean_29 : decode cX9_mean 29 = .ok (.getfield 226, 3) := by decide +kernel
theorem dX9_mean_32 : decode cX9_mean 32 = .ok (.iload_n 2, 1) := by decide +kernel
theorem dX9_mean_33 : decode cX9_mean 33 = .ok (.iaload, 1) := by decide +kernel
theorem dX9_mean_34 : decode cX9_mean 34 = .ok (.invokestatic 358, 3) := by decide +kernel
theorem dX9_mean_37 : decode cX9_mean 37 = .ok (.iadd, 1) := by decide +kernel
theorem dX9_mean_38 : decode cX9_mean 38 = .ok (.istore_n 1, 1) := by decide +kernel
theorem dX9_mean_39 : decode cX9_mean 39 = .ok (.iinc 2 1, 3) := by decide +kernel
theorem dX9_mean_42 : decode cX9_mean 42 = .ok (.goto (-38), 3) := by decide +kernel
theorem dX9_mean_45 : decode cX9_mean 45 = .ok (.iload_n 1, 1) := by decide +kernel
theorem dX9_mean_46 : decode cX9_mean 46 = .ok (.aload_n 0, 1) := by decide +kernel
theorem dX9_mean_47 : decode cX9_mean 47 = .ok (.getfield 19, 3) := by decide +kernel
theorem dX9_mean_50 : decode cX9_mean 50 = .ok (.getfield 89, 3) := by decide +kernel
theorem dX9_mean_53 : decode cX9_mean 53 = .ok (.getfield 98, 3) := by decide +kernel
theorem dX9_mean_56 : decode cX9_mean 56 = .ok (.getfield 95, 3) := by decide +kernel
theorem dX9_mean_59 : decode cX9_mean 59 = .ok (.invokestatic 361, 3) := by decide +kernel
theorem dX9_mean_62 : decode cX9_mean 62 = .ok (.lreturn, 1) := by decide +kernel
theorem dX9_image_0 : decode cX9_image 0 = .ok (.aload_n 0, 1) := by decide +kernel
theorem dX9_image_1 : decode cX9_image 1 = .ok (.getfield 23, 3) := by decide +kernel
theorem dX9_image_4 : decode cX9_image 4 = .ok (.aload_n 0, 1) := by decide +kernel
theorem dX9_image_5 : decode cX9_image 5 = .ok (.getfield 19, 3) := by decide +kernel
theorem dX9_image_8 : decode cX9_image 8 = .ok (.invokevirtual 365, 3) := by decide +kernel
theorem dX9_image_11 : decode cX9_image 11 = .ok (.aload_n 0, 1) := by decide +kernel
theorem dX9_image_12 : decode cX9_image 12 = .ok (.getfield 19, 3) := by decide +kernel
theorem dX9_image_15 : decode cX9_image 15 = .ok (.getfield 89, 3) := by decide +kernel
theorem dX9_image_18 : decode cX9_image 18 = .ok (.getfield 98, 3) := by decide +kernel
theorem dX9_image_21 : decode cX9_image 21 = .ok (.getfield 95, 3) := by decide +kernel
theorem dX9_image_24 : decode cX9_image 24 = .ok (.ireturn, 1) := by decide +kernel
theorem dX9_back_0 : decode cX9_back 0 = .ok (.aload_n 0, 1) := by decide +kernel
theorem dX9_back_1 : decode cX9_back 1 = .ok (.getfield 19, 3) := by decide +kernel
theorem dX9_back_4 : decode cX9_back 4 = .ok (.aload_n 0, 1) := by decide +kernel
theorem dX9_back_5 : decode cX9_back 5 = .ok (.getfield 23, 3) := by decide +kernel
theorem dX9_back_8 : decode cX9_back 8 = .ok (.invokevirtual 365, 3) := by decide +kernel
theorem dX9_back_11 : decode cX9_back 11 = .ok (.aload_n 0, 1) := by decide +kernel
theorem dX9_back_12 : decode cX9_back 12 = .ok (.getfield 19, 3) := by decide +kernel
theorem dX9_back_15 : decode cX9_back 15 = .ok (.getfield 89, 3) := by decide +kernel
theorem dX9_back_18 : decode cX9_back 18 = .ok (.getfield 98, 3) := by decide +kernel
theorem dX9_back_21 : decode cX9_back 21 = .ok (.getfield 95, 3) := by decide +kernel
theorem dX9_back_24 : decode cX9_back 24 = .ok (.ireturn, 1) := by decide +kernel
theorem dX9_about_0 : decode cX9_about 0 = .ok (.iload_n 1, 1) := by decide +kernel
theorem dX9_about_1 : decode cX9_about 1 = .ok (.tableswitch 75 0 3 #[31, 39, 50, 58], 31) := by decide +kernel
theorem dX9_about_32 : decode cX9_about 32 = .ok (.aload_n 0, 1) := by decide +kernel
theorem dX9_about_33 : decode cX9_about 33 = .ok (.getfield 19, 3) := by decide +kernel
theorem dX9_about_36 : decode cX9_about 36 = .ok (.getfield 69, 3) := by decide +kernel
theorem dX9_about_39 : decode cX9_about 39 = .ok (.ireturn, 1) := by decide +kernel
theorem dX9_about_40 : decode cX9_about 40 = .ok (.aload_n 0, 1) := by decide +kernel
theorem dX9_about_41 : decode cX9_about 41 = .ok (.getfield 19, 3) := by decide +kernel
theorem dX9_about_44 : decode cX9_about 44 = .ok (.getfield 173, 3) := by decide +kernel
theorem dX9_about_47 : decode cX9_about 47 = .ok (.getfield 183, 3) := by decide +kernel
theorem dX9_about_50 : decode cX9_about 50 = .ok (.ireturn, 1) := by decide +kernel
theorem dX9_about_51 : decode cX9_about 51 = .ok (.aload_n 0, 1) := by decide +kernel
theorem dX9_about_52 : decode cX9_about 52 = .ok (.getfield 29, 3) := by decide +kernel
theorem dX9_about_55 : decode cX9_about 55 = .ok (.getfield 61, 3) := by decide +kernel
theorem dX9_about_58 : decode cX9_about 58 = .ok (.ireturn, 1) := by decide +kernel
theorem dX9_about_59 : decode cX9_about 59 = .ok (.aload_n 0, 1) := by decide +kernel
theorem dX9_about_60 : decode cX9_about 60 = .ok (.getfield 19, 3) := by decide +kernel
theorem dX9_about_63 : decode cX9_about 63 = .ok (.getfield 89, 3) := by decide +kernel
theorem dX9_about_66 : decode cX9_about 66 = .ok (.getfield 98, 3) := by decide +kernel
theorem dX9_about_69 : decode cX9_about 69 = .ok (.getfield 126, 3) := by decide +kernel
theorem dX9_about_72 : decode cX9_about 72 = .ok (.invokestatic 340, 3) := by decide +kernel
theorem dX9_about_75 : decode cX9_about 75 = .ok (.ireturn, 1) := by decide +kernel
theorem dX9_about_76 : decode cX9_about 76 = .ok (.bipush (-2), 2) := by decide +kernel
theorem dX9_about_78 : decode cX9_about 78 = .ok (.ireturn, 1) := by decide +kernel
theorem dX9_keep_0 : decode cX9_keep 0 = .ok (.aload_n 0, 1) := by decide +kernel
theorem dX9_keep_1 : decode cX9_keep 1 = .ok (.getfield 19, 3) := by decide +kernel
theorem dX9_keep_4 : decode cX9_keep 4 = .ok (.getfield 173, 3) := by decide +kernel
theorem dX9_keep_7 : decode cX9_keep 7 = .ok (.aload_n 0, 1) := by decide +kernel
theorem dX9_keep_8 : decode cX9_keep 8 = .ok (.getfield 19, 3) := by decide +kernel
theorem dX9_keep_11 : decode cX9_keep 11 = .ok (.getfield 89, 3) := by decide +kernel
theorem dX9_keep_14 : decode cX9_keep 14 = .ok (.invokevirtual 368, 3) := by decide +kernel
theorem dX9_keep_17 : decode cX9_keep 17 = .ok (.return_, 1) := by decide +kernel
theorem dX9_isBit_0 : decode cX9_isBit 0 = .ok (.iload_n 1, 1) := by decide +kernel
theorem dX9_isBit_1 : decode cX9_isBit 1 = .ok (.ifCond .lt 24, 3) := by decide +kernel
theorem dX9_isBit_4 : decode cX9_isBit 4 = .ok (.iload_n 1, 1) := by decide +kernel
theorem dX9_isBit_5 : decode cX9_isBit 5 = .ok (.aload_n 0, 1) := by decide +kernel
theorem dX9_isBit_6 : decode cX9_isBit 6 = .ok (.getfield 19, 3) := by decide +kernel
theorem dX9_isBit_9 : decode cX9_isBit 9 = .ok (.getfield 89, 3) := by decide +kernel
theorem dX9_isBit_12 : decode cX9_isBit 12 = .ok (.getfield 98, 3) := by decide +kernel
theorem dX9_isBit_15 : decode cX9_isBit 15 = .ok (.getfield 95, 3) := by decide +kernel
theorem dX9_isBit_18 : decode cX9_isBit 18 = .ok (.if_icmp .ge 7, 3) := by decide +kernel
theorem dX9_isBit_21 : decode cX9_isBit 21 = .ok (.iconst 1, 1) := by decide +kernel
theorem dX9_isBit_22 : decode cX9_isBit 22 = .ok (.goto 4, 3) := by decide +kernel
theorem dX9_isBit_25 : decode cX9_isBit 25 = .ok (.iconst 0, 1) := by decide +kernel
theorem dX9_isBit_26 : decode cX9_isBit 26 = .ok (.ireturn, 1) := by decide +kernel
theorem dX9_isCheck_0 : decode cX9_isCheck 0 = .ok (.iload_n 1, 1) := by decide +kernel
theorem dX9_isCheck_1 : decode cX9_isCheck 1 = .ok (.ifCond .lt 24, 3) := by decide +kernel
theorem dX9_isCheck_4 : decode cX9_isCheck 4 = .ok (.iload_n 1, 1) := by decide +kernel
theorem dX9_isCheck_5 : decode cX9_isCheck 5 = .ok (.aload_n 0, 1) := by decide +kernel
theorem dX9_isCheck_6 : decode cX9_isCheck 6 = .ok (.getfield 19, 3) := by decide +kernel
theorem dX9_isCheck_9 : decode cX9_isCheck 9 = .ok (.getfield 89, 3) := by decide +kernel
theorem dX9_isCheck_12 : decode cX9_isCheck 12 = .ok (.getfield 98, 3) := by decide +kernel
theorem dX9_isCheck_15 : decode cX9_isCheck 15 = .ok (.getfield 371, 3) := by decide +kernel
theorem dX9_isCheck_18 : decode cX9_isCheck 18 = .ok (.if_icmp .ge 7, 3) := by decide +kernel
theorem dX9_isCheck_21 : decode cX9_isCheck 21 = .ok (.iconst 1, 1) := by decide +kernel
theorem dX9_isCheck_22 : decode cX9_isCheck 22 = .ok (.goto 4, 3) := by decide +kernel
theorem dX9_isCheck_25 : decode cX9_isCheck 25 = .ok (.iconst 0, 1) := by decide +kernel
theorem dX9_isCheck_26 : decode cX9_isCheck 26 = .ok (.ireturn, 1) := by decide +kernel
theorem dX9_isSet_0 : decode cX9_isSet 0 = .ok (.lload_n 1, 1) := by decide +kernel
theorem dX9_isSet_1 : decode cX9_isSet 1 = .ok (.aload_n 0, 1) := by decide +kernel
theorem dX9_isSet_2 : decode cX9_isSet 2 = .ok (.getfield 19, 3) := by decide +kernel
theorem dX9_isSet_5 : decode cX9_isSet 5 = .ok (.getfield 89, 3) := by decide +kernel
theorem dX9_isSet_8 : decode cX9_isSet 8 = .ok (.getfield 98, 3) := by decide +kernel
theorem dX9_isSet_11 : decode cX9_isSet 11 = .ok (.getfield 95, 3) := by decide +kernel
theorem dX9_isSet_14 : decode cX9_isSet 14 = .ok (.lshr, 1) := by decide +kernel
theorem dX9_isSet_15 : decode cX9_isSet 15 = .ok (.lconst 0, 1) := by decide +kernel
theorem dX9_isSet_16 : decode cX9_isSet 16 = .ok (.lcmp, 1) := by decide +kernel
theorem dX9_isSet_17 : decode cX9_isSet 17 = .ok (.ifCond .ne 7, 3) := by decide +kernel
theorem dX9_isSet_20 : decode cX9_isSet 20 = .ok (.iconst 1, 1) := by decide +kernel
theorem dX9_isSet_21 : decode cX9_isSet 21 = .ok (.goto 4, 3) := by decide +kernel
theorem dX9_isSet_24 : decode cX9_isSet 24 = .ok (.iconst 0, 1) := by decide +kernel
theorem dX9_isSet_25 : decode cX9_isSet 25 = .ok (.ireturn, 1) := by decide +kernel
theorem dX9_isOrder_0 : decode cX9_isOrder 0 = .ok (.iload_n 1, 1) := by decide +kernel
theorem dX9_isOrder_1 : decode cX9_isOrder 1 = .ok (.ifCond .lt 27, 3) := by decide +kernel
theorem dX9_isOrder_4 : decode cX9_isOrder 4 = .ok (.iload_n 1, 1) := by decide +kernel
theorem dX9_isOrder_5 : decode cX9_isOrder 5 = .ok (.aload_n 0, 1) := by decide +kernel
theorem dX9_isOrder_6 : decode cX9_isOrder 6 = .ok (.getfield 19, 3) := by decide +kernel
theorem dX9_isOrder_9 : decode cX9_isOrder 9 = .ok (.getfield 89, 3) := by decide +kernel
theorem dX9_isOrder_12 : decode cX9_isOrder 12 = .ok (.getfield 98, 3) := by decide +kernel
theorem dX9_isOrder_15 : decode cX9_isOrder 15 = .ok (.getfield 126, 3) := by decide +kernel
theorem dX9_isOrder_18 : decode cX9_isOrder 18 = .ok (.invokestatic 340, 3) := by decide +kernel
theorem dX9_isOrder_21 : decode cX9_isOrder 21 = .ok (.if_icmp .ge 7, 3) := by decide +kernel
theorem dX9_isOrder_24 : decode cX9_isOrder 24 = .ok (.iconst 1, 1) := by decide +kernel
theorem dX9_isOrder_25 : decode cX9_isOrder 25 = .ok (.goto 4, 3) := by decide +kernel
theorem dX9_isOrder_28 : decode cX9_isOrder 28 = .ok (.iconst 0, 1) := by decide +kernel
theorem dX9_isOrder_29 : decode cX9_isOrder 29 = .ok (.ireturn, 1) := by decide +kernel
theorem dX9_isMany_0 : decode cX9_isMany 0 = .ok (.iload_n 0, 1) := by decide +kernel
theorem dX9_isMany_1 : decode cX9_isMany 1 = .ok (.iconst 1, 1) := by decide +kernel
theorem dX9_isMany_2 : decode cX9_isMany 2 = .ok (.if_icmp .lt 12, 3) := by decide +kernel
theorem dX9_isMany_5 : decode cX9_isMany 5 = .ok (.iload_n 0, 1) := by decide +kernel
theorem dX9_isMany_6 : decode cX9_isMany 6 = .ok (.iconst 4, 1) := by decide +kernel
theorem dX9_isMany_7 : decode cX9_isMany 7 = .ok (.if_icmp .gt 7, 3) := by decide +kernel
theorem dX9_isMany_10 : decode cX9_isMany 10 = .ok (.iconst 1, 1) := by decide +kernel
theorem dX9_isMany_11 : decode cX9_isMany 11 = .ok (.goto 4, 3) := by decide +kernel
theorem dX9_isMany_14 : decode cX9_isMany 14 = .ok (.iconst 0, 1) := by decide +kernel
theorem dX9_isMany_15 : decode cX9_isMany 15 = .ok (.ireturn, 1) := by decide +kernel
theorem dX9_isLevel_0 : decode cX9_isLevel 0 = .ok (.iload_n 0, 1) := by decide +kernel
theorem dX9_isLevel_1 : decode cX9_isLevel 1 = .ok (.iconst 1, 1) := by decide +kernel
theorem dX9_isLevel_2 : decode cX9_isLevel 2 = .ok (.if_icmp .lt 13, 3) := by decide +kernel
theorem dX9_isLevel_5 : decode cX9_isLevel 5 = .ok (.iload_n 0, 1) := by decide +kernel
theorem dX9_isLevel_6 : decode cX9_isLevel 6 = .ok (.bipush 31, 2) := by decide +kernel
theorem dX9_isLevel_8 : decode cX9_isLevel 8 = .ok (.if_icmp .gt 7, 3) := by decide +kernel
theorem dX9_isLevel_11 : decode cX9_isLevel 11 = .ok (.iconst 1, 1) := by decide +kernel
theorem dX9_isLevel_12 : decode cX9_isLevel 12 = .ok (.goto 4, 3) := by decide +kernel
theorem dX9_isLevel_15 : decode cX9_isLevel 15 = .ok (.iconst 0, 1) := by decide +kernel
theorem dX9_isLevel_16 : decode cX9_isLevel 16 = .ok (.ireturn, 1) := by decide +kernel
theorem dX9_isSpoil_0 : decode cX9_isSpoil 0 = .ok (.iload_n 0, 1) := by decide +kernel
theorem dX9_isSpoil_1 : decode cX9_isSpoil 1 = .ok (.ifCond .lt 13, 3) := by decide +kernel
theorem dX9_isSpoil_4 : decode cX9_isSpoil 4 = .ok (.iload_n 0, 1) := by decide +kernel
theorem dX9_isSpoil_5 : decode cX9_isSpoil 5 = .ok (.bipush 100, 2) := by decide +kernel
theorem dX9_isSpoil_7 : decode cX9_isSpoil 7 = .ok (.if_icmp .gt 7, 3) := by decide +kernel
theorem dX9_isSpoil_10 : decode cX9_isSpoil 10 = .ok (.iconst 1, 1) := by decide +kernel
theorem dX9_isSpoil_11 : decode cX9_isSpoil 11 = .ok (.goto 4, 3) := by decide +kernel
theorem dX9_isSpoil_14 : decode cX9_isSpoil 14 = .ok (.iconst 0, 1) := by decide +kernel
theorem dX9_isSpoil_15 : decode cX9_isSpoil 15 = .ok (.ireturn, 1) := by decide +kernel
theorem dX9_isSteps_0 : decode cX9_isSteps 0 = .ok (.iload_n 0, 1) := by decide +kernel
theorem dX9_isSteps_1 : decode cX9_isSteps 1 = .ok (.iconst 1, 1) := by decide +kernel
theorem dX9_isSteps_2 : decode cX9_isSteps 2 = .ok (.if_icmp .lt 13, 3) := by decide +kernel
theorem dX9_isSteps_5 : decode cX9_isSteps 5 = .ok (.iload_n 0, 1) := by decide +kernel
theorem dX9_isSteps_6 : decode cX9_isSteps 6 = .ok (.bipush 80, 2) := by decide +kernel
theorem dX9_isSteps_8 : decode cX9_isSteps 8 = .ok (.if_icmp .gt 7, 3) := by decide +kernel
theorem dX9_isSteps_11 : decode cX9_isSteps 11 = .ok (.iconst 1, 1) := by decide +kernel
theorem dX9_isSteps_12 : decode cX9_isSteps 12 = .ok (.goto 4, 3) := by decide +kernel
theorem dX9_isSteps_15 : decode cX9_isSteps 15 = .ok (.iconst 0, 1) := by decide +kernel
theorem dX9_isSteps_16 : decode cX9_isSteps 16 = .ok (.ireturn, 1) := by decide +kernel
theorem dX9_isLatency_0 : decode cX9_isLatency 0 = .ok (.iload_n 0, 1) := by decide +kernel
theorem dX9_isLatency_1 : decode cX9_isLatency 1 = .ok (.iconst 1, 1) := by decide +kernel
theorem dX9_isLatency_2 : decode cX9_isLatency 2 = .ok (.if_icmp .lt 13, 3) := by decide +kernel
theorem dX9_isLatency_5 : decode cX9_isLatency 5 = .ok (.iload_n 0, 1) := by decide +kernel
theorem dX9_isLatency_6 : decode cX9_isLatency 6 = .ok (.bipush 9, 2) := by decide +kernel
theorem dX9_isLatency_8 : decode cX9_isLatency 8 = .ok (.if_icmp .gt 7, 3) := by decide +kernel
theorem dX9_isLatency_11 : decode cX9_isLatency 11 = .ok (.iconst 1, 1) := by decide +kernel
theorem dX9_isLatency_12 : decode cX9_isLatency 12 = .ok (.goto 4, 3) := by decide +kernel
theorem dX9_isLatency_15 : decode cX9_isLatency 15 = .ok (.iconst 0, 1) := by decide +kernel
theorem dX9_isLatency_16 : decode cX9_isLatency 16 = .ok (.ireturn, 1) := by decide +kernel
theorem dX9_trap_0 : decode cX9_trap 0 = .ok (.aload_n 0, 1) := by decide +kernel
theorem dX9_trap_1 : decode cX9_trap 1 = .ok (.getfield 36, 3) := by decide +kernel
theorem dX9_trap_4 : decode cX9_trap 4 = .ok (.aload_n 0, 1) := by decide +kernel
theorem dX9_trap_5 : decode cX9_trap 5 = .ok (.getfield 19, 3) := by decide +kernel
theorem dX9_trap_8 : decode cX9_trap 8 = .ok (.getfield 89, 3) := by decide +kernel
theorem dX9_trap_11 : decode cX9_trap 11 = .ok (.invokevirtual 347, 3) := by decide +kernel
theorem dX9_trap_14 : decode cX9_trap 14 = .ok (.iconst 0, 1) := by decide +kernel
theorem dX9_trap_15 : decode cX9_trap 15 = .ok (.istore 4, 2) := by decide +kernel
theorem dX9_trap_17 : decode cX9_trap 17 = .ok (.iload 4, 2) := by decide +kernel
theorem dX9_trap_19 : decode cX9_trap 19 = .ok (.aload_n 0, 1) := by decide +kernel
theorem dX9_trap_20 : decode cX9_trap 20 = .ok (.getfield 36, 3) := by decide +kernel
theorem dX9_trap_23 : decode cX9_trap 23 = .ok (.getfield 98, 3) := by decide +kernel
theorem dX9_trap_26 : decode cX9_trap 26 = .ok (.getfield 95, 3) := by decide +kernel
theorem dX9_trap_29 : decode cX9_trap 29 = .ok (.if_icmp .ge 36, 3) := by decide +kernel
theorem dX9_trap_32 : decode cX9_trap 32 = .ok (.aload_n 0, 1) := by decide +kernel
theorem dX9_trap_33 : decode cX9_trap 33 = .ok (.getfield 36, 3) := by decide +kernel
theorem dX9_trap_36 : decode cX9_trap 36 = .ok (.getfield 133, 3) := by decide +kernel
theorem dX9_trap_39 : decode cX9_trap 39 = .ok (.iload 4, 2) := by decide +kernel
theorem dX9_trap_41 : decode cX9_trap 41 = .ok (.lload_n 1, 1) := by decide +kernel
theorem dX9_trap_42 : decode cX9_trap 42 = .ok (.iload 4, 2) := by decide +kernel
theorem dX9_trap_44 : decode cX9_trap 44 = .ok (.lshr, 1) := by decide +kernel
theorem dX9_trap_45 : decode cX9_trap 45 = .ok (.lconst 1, 1) := by decide +kernel
theorem dX9_trap_46 : decode cX9_trap 46 = .ok (.land, 1) := by decide +kernel
theorem dX9_trap_47 : decode cX9_trap 47 = .ok (.lconst 0, 1) := by decide +kernel
theorem dX9_trap_48 : decode cX9_trap 48 = .ok (.lcmp, 1) := by decide +kernel
theorem dX9_trap_49 : decode cX9_trap 49 = .ok (.ifCond .eq 8, 3) := by decide +kernel
theorem dX9_trap_52 : decode cX9_trap 52 = .ok (.iload_n 3, 1) := by decide +kernel
theorem dX9_trap_53 : decode cX9_trap 53 = .ok (.ineg, 1) := by decide +kernel
theorem dX9_trap_54 : decode cX9_trap 54 = .ok (.goto 4, 3) := by decide +kernel
theorem dX9_trap_57 : decode cX9_trap 57 = .ok (.iload_n 3, 1) := by decide +kernel
theorem dX9_trap_58 : decode cX9_trap 58 = .ok (.iastore, 1) := by decide +kernel
theorem dX9_trap_59 : decode cX9_trap 59 = .ok (.iinc 4 1, 3) := by decide +kernel
theorem dX9_trap_62 : decode cX9_trap 62 = .ok (.goto (-45), 3) := by decide +kernel
theorem dX9_trap_65 : decode cX9_trap 65 = .ok (.aload_n 0, 1) := by decide +kernel
theorem dX9_trap_66 : decode cX9_trap 66 = .ok (.getfield 36, 3) := by decide +kernel
theorem dX9_trap_69 : decode cX9_trap 69 = .ok (.iconst 0, 1) := by decide +kernel
theorem dX9_trap_70 : decode cX9_trap 70 = .ok (.invokevirtual 147, 3) := by decide +kernel
theorem dX9_trap_73 : decode cX9_trap 73 = .ok (.aload_n 0, 1) := by decide +kernel
theorem dX9_trap_74 : decode cX9_trap 74 = .ok (.getfield 36, 3) := by decide +kernel
theorem dX9_trap_77 : decode cX9_trap 77 = .ok (.bipush 80, 2) := by decide +kernel
theorem dX9_trap_79 : decode cX9_trap 79 = .ok (.invokevirtual 169, 3) := by decide +kernel
theorem dX9_trap_82 : decode cX9_trap 82 = .ok (.pop, 1) := by decide +kernel
theorem dX9_trap_83 : decode cX9_trap 83 = .ok (.aload_n 0, 1) := by decide +kernel
theorem dX9_trap_84 : decode cX9_trap 84 = .ok (.getfield 36, 3) := by decide +kernel
theorem dX9_trap_87 : decode cX9_trap 87 = .ok (.getfield 229, 3) := by decide +kernel
theorem dX9_trap_90 : decode cX9_trap 90 = .ok (.lconst 0, 1) := by decide +kernel
theorem dX9_trap_91 : decode cX9_trap 91 = .ok (.lcmp, 1) := by decide +kernel
theorem dX9_trap_92 : decode cX9_trap 92 = .ok (.ifCond .ne 5, 3) := by decide +kernel
theorem dX9_trap_95 : decode cX9_trap 95 = .ok (.iconst 0, 1) := by decide +kernel
theorem dX9_trap_96 : decode cX9_trap 96 = .ok (.ireturn, 1) := by decide +kernel
theorem dX9_trap_97 : decode cX9_trap 97 = .ok (.aload_n 0, 1) := by decide +kernel
theorem dX9_trap_98 : decode cX9_trap 98 = .ok (.getfield 36, 3) := by decide +kernel
theorem dX9_trap_101 : decode cX9_trap 101 = .ok (.getfield 150, 3) := by decide +kernel
theorem dX9_trap_104 : decode cX9_trap 104 = .ok (.ireturn, 1) := by decide +kernel
theorem dX9_sweepsBy_0 : decode cX9_sweepsBy 0 = .ok (.aload_n 0, 1) := by decide +kernel
theorem dX9_sweepsBy_1 : decode cX9_sweepsBy 1 = .ok (.getfield 36, 3) := by decide +kernel
theorem dX9_sweepsBy_4 : decode cX9_sweepsBy 4 = .ok (.aload_n 0, 1) := by decide +kernel
theorem dX9_sweepsBy_5 : decode cX9_sweepsBy 5 = .ok (.getfield 19, 3) := by decide +kernel
theorem dX9_sweepsBy_8 : decode cX9_sweepsBy 8 = .ok (.getfield 89, 3) := by decide +kernel
theorem dX9_sweepsBy_11 : decode cX9_sweepsBy 11 = .ok (.invokevirtual 347, 3) := by decide +kernel
theorem dX9_sweepsBy_14 : decode cX9_sweepsBy 14 = .ok (.aload_n 0, 1) := by decide +kernel
theorem dX9_sweepsBy_15 : decode cX9_sweepsBy 15 = .ok (.getfield 36, 3) := by decide +kernel
theorem dX9_sweepsBy_18 : decode cX9_sweepsBy 18 = .ok (.iload_n 1, 1) := by decide +kernel
theorem dX9_sweepsBy_19 : decode cX9_sweepsBy 19 = .ok (.invokevirtual 147, 3) := by decide +kernel
theorem dX9_sweepsBy_22 : decode cX9_sweepsBy 22 = .ok (.aload_n 0, 1) := by decide +kernel
theorem dX9_sweepsBy_23 : decode cX9_sweepsBy 23 = .ok (.getfield 36, 3) := by decide +kernel
theorem dX9_sweepsBy_26 : decode cX9_sweepsBy 26 = .ok (.bipush 80, 2) := by decide +kernel
theorem dX9_sweepsBy_28 : decode cX9_sweepsBy 28 = .ok (.invokevirtual 169, 3) := by decide +kernel
theorem dX9_sweepsBy_31 : decode cX9_sweepsBy 31 = .ok (.pop, 1) := by decide +kernel
theorem dX9_sweepsBy_32 : decode cX9_sweepsBy 32 = .ok (.aload_n 0, 1) := by decide +kernel
theorem dX9_sweepsBy_33 : decode cX9_sweepsBy 33 = .ok (.getfield 36, 3) := by decide +kernel
theorem dX9_sweepsBy_36 : decode cX9_sweepsBy 36 = .ok (.getfield 150, 3) := by decide +kernel
theorem dX9_sweepsBy_39 : decode cX9_sweepsBy 39 = .ok (.iconst 1, 1) := by decide +kernel
theorem dX9_sweepsBy_40 : decode cX9_sweepsBy 40 = .ok (.if_icmp .ne 13, 3) := by decide +kernel
theorem dX9_sweepsBy_43 : decode cX9_sweepsBy 43 = .ok (.aload_n 0, 1) := by decide +kernel
theorem dX9_sweepsBy_44 : decode cX9_sweepsBy 44 = .ok (.getfield 36, 3) := by decide +kernel
theorem dX9_sweepsBy_47 : decode cX9_sweepsBy 47 = .ok (.getfield 196, 3) := by decide +kernel
theorem dX9_sweepsBy_50 : decode cX9_sweepsBy 50 = .ok (.goto 4, 3) := by decide +kernel
theorem dX9_sweepsBy_53 : decode cX9_sweepsBy 53 = .ok (.iconst (-1), 1) := by decide +kernel
theorem dX9_sweepsBy_54 : decode cX9_sweepsBy 54 = .ok (.ireturn, 1) := by decide +kernel
theorem dX9_isOdd_0 : decode cX9_isOdd 0 = .ok (.lload_n 0, 1) := by decide +kernel
theorem dX9_isOdd_1 : decode cX9_isOdd 1 = .ok (.invokestatic 113, 3) := by decide +kernel
theorem dX9_isOdd_4 : decode cX9_isOdd 4 = .ok (.iconst 1, 1) := by decide +kernel
theorem dX9_isOdd_5 : decode cX9_isOdd 5 = .ok (.iand, 1) := by decide +kernel
theorem dX9_isOdd_6 : decode cX9_isOdd 6 = .ok (.ifCond .eq 7, 3) := by decide +kernel
theorem dX9_isOdd_9 : decode cX9_isOdd 9 = .ok (.iconst 1, 1) := by decide +kernel
theorem dX9_isOdd_10 : decode cX9_isOdd 10 = .ok (.goto 4, 3) := by decide +kernel
theorem dX9_isOdd_13 : decode cX9_isOdd 13 = .ok (.iconst 0, 1) := by decide +kernel
theorem dX9_isOdd_14 : decode cX9_isOdd 14 = .ok (.ireturn, 1) := by decide +kernel
theorem dX9_lowest_0 : decode cX9_lowest 0 = .ok (.lload_n 0, 1) := by decide +kernel
theorem dX9_lowest_1 : decode cX9_lowest 1 = .ok (.lload_n 0, 1) := by decide +kernel
theorem dX9_lowest_2 : decode cX9_lowest 2 = .ok (.lneg, 1) := by decide +kernel
theorem dX9_lowest_3 : decode cX9_lowest 3 = .ok (.land, 1) := by decide +kernel
theorem dX9_lowest_4 : decode cX9_lowest 4 = .ok (.lconst 1, 1) := by decide +kernel
theorem dX9_lowest_5 : decode cX9_lowest 5 = .ok (.lsub, 1) := by decide +kernel
theorem dX9_lowest_6 : decode cX9_lowest 6 = .ok (.invokestatic 113, 3) := by decide +kernel
theorem dX9_lowest_9 : decode cX9_lowest 9 = .ok (.ireturn, 1) := by decide +kernel
theorem dX9_memberOf_0 : decode cX9_memberOf 0 = .ok (.iload_n 2, 1) := by decide +kernel
theorem dX9_memberOf_1 : decode cX9_memberOf 1 = .ok (.ifCond .lt 11, 3) := by decide +kernel
theorem dX9_memberOf_4 : decode cX9_memberOf 4 = .ok (.iload_n 2, 1) := by decide +kernel
theorem dX9_memberOf_5 : decode cX9_memberOf 5 = .ok (.lload_n 0, 1) := by decide +kernel
theorem dX9_memberOf_6 : decode cX9_memberOf 6 = .ok (.invokestatic 113, 3) := by decide +kernel
theorem dX9_memberOf_9 : decode cX9_memberOf 9 = .ok (.if_icmp .lt 5, 3) := by decide +kernel
theorem dX9_memberOf_12 : decode cX9_memberOf 12 = .ok (.iconst (-1), 1) := by decide +kernel
theorem dX9_memberOf_13 : decode cX9_memberOf 13 = .ok (.ireturn, 1) := by decide +kernel
theorem dX9_memberOf_14 : decode cX9_memberOf 14 = .ok (.lload_n 0, 1) := by decide +kernel
theorem dX9_memberOf_15 : decode cX9_memberOf 15 = .ok (.lstore_n 3, 1) := by decide +kernel
theorem dX9_memberOf_16 : decode cX9_memberOf 16 = .ok (.iconst 0, 1) := by decide +kernel
theorem dX9_memberOf_17 : decode cX9_memberOf 17 = .ok (.istore 5, 2) := by decide +kernel
theorem dX9_memberOf_19 : decode cX9_memberOf 19 = .ok (.iload 5, 2) := by decide +kernel
theorem dX9_memberOf_21 : decode cX9_memberOf 21 = .ok (.iload_n 2, 1) := by decide +kernel
theorem dX9_memberOf_22 : decode cX9_memberOf 22 = .ok (.if_icmp .ge 15, 3) := by decide +kernel
theorem dX9_memberOf_25 : decode cX9_memberOf 25 = .ok (.lload_n 3, 1) := by decide +kernel
theorem dX9_memberOf_26 : decode cX9_memberOf 26 = .ok (.lload_n 3, 1) := by decide +kernel
theorem dX9_memberOf_27 : decode cX9_memberOf 27 = .ok (.lconst 1, 1) := by decide +kernel
theorem dX9_memberOf_28 : decode cX9_memberOf 28 = .ok (.lsub, 1) := by decide +kernel
theorem dX9_memberOf_29 : decode cX9_memberOf 29 = .ok (.land, 1) := by decide +kernel
theorem dX9_memberOf_30 : decode cX9_memberOf 30 = .ok (.lstore_n 3, 1) := by decide +kernel
theorem dX9_memberOf_31 : decode cX9_memberOf 31 = .ok (.iinc 5 1, 3) := by decide +kernel
theorem dX9_memberOf_34 : decode cX9_memberOf 34 = .ok (.goto (-15), 3) := by decide +kernel
theorem dX9_memberOf_37 : decode cX9_memberOf 37 = .ok (.lload_n 3, 1) := by decide +kernel
theorem dX9_memberOf_38 : decode cX9_memberOf 38 = .ok (.invokestatic 374, 3) := by decide +kernel
theorem dX9_memberOf_41 : decode cX9_memberOf 41 = .ok (.ireturn, 1) := by decide +kernel
theorem dX9_countOrders_0 : decode cX9_countOrders 0 = .ok (.iconst 1, 1) := by decide +kernel
theorem dX9_countOrders_1 : decode cX9_countOrders 1 = .ok (.istore_n 1, 1) := by decide +kernel
theorem dX9_countOrders_2 : decode cX9_countOrders 2 = .ok (.iconst 2, 1) := by decide +kernel
theorem dX9_countOrders_3 : decode cX9_countOrders 3 = .ok (.istore_n 2, 1) := by decide +kernel
theorem dX9_countOrders_4 : decode cX9_countOrders 4 = .ok (.iload_n 2, 1) := by decide +kernel
theorem dX9_countOrders_5 : decode cX9_countOrders 5 = .ok (.iload_n 0, 1) := by decide +kernel
theorem dX9_countOrders_6 : decode cX9_countOrders 6 = .ok (.if_icmp .gt 13, 3) := by decide +kernel
theorem dX9_countOrders_9 : decode cX9_countOrders 9 = .ok (.iload_n 1, 1) := by decide +kernel
theorem dX9_countOrders_10 : decode cX9_countOrders 10 = .ok (.iload_n 2, 1) := by decide +kernel
theorem dX9_countOrders_11 : decode cX9_countOrders 11 = .ok (.imul, 1) := by decide +kernel
theorem dX9_countOrders_12 : decode cX9_countOrders 12 = .ok (.istore_n 1, 1) := by decide +kernel
theorem dX9_countOrders_13 : decode cX9_countOrders 13 = .ok (.iinc 2 1, 3) := by decide +kernel
theorem dX9_countOrders_16 : decode cX9_countOrders 16 = .ok (.goto (-12), 3) := by decide +kernel
theorem dX9_countOrders_19 : decode cX9_countOrders 19 = .ok (.iload_n 1, 1) := by decide +kernel
theorem dX9_countOrders_20 : decode cX9_countOrders 20 = .ok (.ireturn, 1) := by decide +kernel
theorem dX9_fillOrder_0 : decode cX9_fillOrder 0 = .ok (.iconst 1, 1) := by decide +kernel
theorem dX9_fillOrder_1 : decode cX9_fillOrder 1 = .ok (.iload_n 0, 1) := by decide +kernel
theorem dX9_fillOrder_2 : decode cX9_fillOrder 2 = .ok (.ishl, 1) := by decide +kernel
theorem dX9_fillOrder_3 : decode cX9_fillOrder 3 = .ok (.iconst 1, 1) := by decide +kernel
theorem dX9_fillOrder_4 : decode cX9_fillOrder 4 = .ok (.isub, 1) := by decide +kernel
theorem dX9_fillOrder_5 : decode cX9_fillOrder 5 = .ok (.istore_n 3, 1) := by decide +kernel
theorem dX9_fillOrder_6 : decode cX9_fillOrder 6 = .ok (.iload_n 1, 1) := by decide +kernel
theorem dX9_fillOrder_7 : decode cX9_fillOrder 7 = .ok (.istore 4, 2) := by decide +kernel
theorem dX9_fillOrder_9 : decode cX9_fillOrder 9 = .ok (.iconst 0, 1) := by decide +kernel
theorem dX9_fillOrder_10 : decode cX9_fillOrder 10 = .ok (.istore 5, 2) := by decide +kernel
theorem dX9_fillOrder_12 : decode cX9_fillOrder 12 = .ok (.iload 5, 2) := by decide +kernel
theorem dX9_fillOrder_14 : decode cX9_fillOrder 14 = .ok (.iload_n 0, 1) := by decide +kernel
theorem dX9_fillOrder_15 : decode cX9_fillOrder 15 = .ok (.if_icmp .ge 81, 3) := by decide +kernel
theorem dX9_fillOrder_18 : decode cX9_fillOrder 18 = .ok (.iload_n 0, 1) := by decide +kernel
theorem dX9_fillOrder_19 : decode cX9_fillOrder 19 = .ok (.iconst 1, 1) := by decide +kernel
theorem dX9_fillOrder_20 : decode cX9_fillOrder 20 = .ok (.isub, 1) := by decide +kernel
theorem dX9_fillOrder_21 : decode cX9_fillOrder 21 = .ok (.iload 5, 2) := by decide +kernel
theorem dX9_fillOrder_23 : decode cX9_fillOrder 23 = .ok (.isub, 1) := by decide +kernel
theorem dX9_fillOrder_24 : decode cX9_fillOrder 24 = .ok (.invokestatic 340, 3) := by decide +kernel
theorem dX9_fillOrder_27 : decode cX9_fillOrder 27 = .ok (.istore 6, 2) := by decide +kernel
theorem dX9_fillOrder_29 : decode cX9_fillOrder 29 = .ok (.iconst 0, 1) := by decide +kernel
theorem dX9_fillOrder_30 : decode cX9_fillOrder 30 = .ok (.istore 7, 2) := by decide +kernel
theorem dX9_fillOrder_32 : decode cX9_fillOrder 32 = .ok (.iconst 0, 1) := by decide +kernel
theorem dX9_fillOrder_33 : decode cX9_fillOrder 33 = .ok (.istore 8, 2) := by decide +kernel
theorem dX9_fillOrder_35 : decode cX9_fillOrder 35 = .ok (.iload 8, 2) := by decide +kernel
theorem dX9_fillOrder_37 : decode cX9_fillOrder 37 = .ok (.iload_n 0, 1) := by decide +kernel
theorem dX9_fillOrder_38 : decode cX9_fillOrder 38 = .ok (.if_icmp .ge 26, 3) := by decide +kernel
theorem dX9_fillOrder_41 : decode cX9_fillOrder 41 = .ok (.iload 4, 2) := by decide +kernel
theorem dX9_fillOrder_43 : decode cX9_fillOrder 43 = .ok (.iload 6, 2) := by decide +kernel
theorem dX9_fillOrder_45 : decode cX9_fillOrder 45 = .ok (.if_icmp .lt 19, 3) := by decide +kernel
theorem dX9_fillOrder_48 : decode cX9_fillOrder 48 = .ok (.iload 4, 2) := by decide +kernel
theorem dX9_fillOrder_50 : decode cX9_fillOrder 50 = .ok (.iload 6, 2) := by decide +kernel
theorem dX9_fillOrder_52 : decode cX9_fillOrder 52 = .ok (.isub, 1) := by decide +kernel
theorem dX9_fillOrder_53 : decode cX9_fillOrder 53 = .ok (.istore 4, 2) := by decide +kernel
theorem dX9_fillOrder_55 : decode cX9_fillOrder 55 = .ok (.iinc 7 1, 3) := by decide +kernel
theorem dX9_fillOrder_58 : decode cX9_fillOrder 58 = .ok (.iinc 8 1, 3) := by decide +kernel
theorem dX9_fillOrder_61 : decode cX9_fillOrder 61 = .ok (.goto (-26), 3) := by decide +kernel
theorem dX9_fillOrder_64 : decode cX9_fillOrder 64 = .ok (.aload_n 2, 1) := by decide +kernel
theorem dX9_fillOrder_65 : decode cX9_fillOrder 65 = .ok (.iload 5, 2) := by decide +kernel
theorem dX9_fillOrder_67 : decode cX9_fillOrder 67 = .ok (.iload_n 3, 1) := by decide +kernel
theorem dX9_fillOrder_68 : decode cX9_fillOrder 68 = .ok (.i2l, 1) := by decide +kernel
theorem dX9_fillOrder_69 : decode cX9_fillOrder 69 = .ok (.iload 7, 2) := by decide +kernel
theorem dX9_fillOrder_71 : decode cX9_fillOrder 71 = .ok (.invokestatic 215, 3) := by decide +kernel
theorem dX9_fillOrder_74 : decode cX9_fillOrder 74 = .ok (.iconst 0, 1) := by decide +kernel
theorem dX9_fillOrder_75 : decode cX9_fillOrder 75 = .ok (.invokestatic 377, 3) := by decide +kernel
theorem dX9_fillOrder_78 : decode cX9_fillOrder 78 = .ok (.iastore, 1) := by decide +kernel
theorem dX9_fillOrder_79 : decode cX9_fillOrder 79 = .ok (.iload_n 3, 1) := by decide +kernel
theorem dX9_fillOrder_80 : decode cX9_fillOrder 80 = .ok (.iconst 1, 1) := by decide +kernel
theorem dX9_fillOrder_81 : decode cX9_fillOrder 81 = .ok (.aload_n 2, 1) := by decide +kernel
theorem dX9_fillOrder_82 : decode cX9_fillOrder 82 = .ok (.iload 5, 2) := by decide +kernel
theorem dX9_fillOrder_84 : decode cX9_fillOrder 84 = .ok (.iaload, 1) := by decide +kernel
theorem dX9_fillOrder_85 : decode cX9_fillOrder 85 = .ok (.ishl, 1) := by decide +kernel
theorem dX9_fillOrder_86 : decode cX9_fillOrder 86 = .ok (.iconst (-1), 1) := by decide +kernel
theorem dX9_fillOrder_87 : decode cX9_fillOrder 87 = .ok (.ixor, 1) := by decide +kernel
theorem dX9_fillOrder_88 : decode cX9_fillOrder 88 = .ok (.iand, 1) := by decide +kernel
theorem dX9_fillOrder_89 : decode cX9_fillOrder 89 = .ok (.istore_n 3, 1) := by decide +kernel
theorem dX9_fillOrder_90 : decode cX9_fillOrder 90 = .ok (.iinc 5 1, 3) := by decide +kernel
theorem dX9_fillOrder_93 : decode cX9_fillOrder 93 = .ok (.goto (-81), 3) := by decide +kernel
theorem dX9_fillOrder_96 : decode cX9_fillOrder 96 = .ok (.return_, 1) := by decide +kernel
theorem dX9_quotientBits_0 : decode cX9_quotientBits 0 = .ok (.iload_n 0, 1) := by decide +kernel
theorem dX9_quotientBits_1 : decode cX9_quotientBits 1 = .ok (.ifCond .le 7, 3) := by decide +kernel
theorem dX9_quotientBits_4 : decode cX9_quotientBits 4 = .ok (.iload_n 1, 1) := by decide +kernel
theorem dX9_quotientBits_5 : decode cX9_quotientBits 5 = .ok (.ifCond .gt 5, 3) := by decide +kernel
theorem dX9_quotientBits_8 : decode cX9_quotientBits 8 = .ok (.lconst 0, 1) := by decide +kernel
theorem dX9_quotientBits_9 : decode cX9_quotientBits 9 = .ok (.lreturn, 1) := by decide +kernel
theorem dX9_quotientBits_10 : decode cX9_quotientBits 10 = .ok (.iload_n 0, 1) := by decide +kernel
theorem dX9_quotientBits_11 : decode cX9_quotientBits 11 = .ok (.i2l, 1) := by decide +kernel
theorem dX9_quotientBits_12 : decode cX9_quotientBits 12 = .ok (.lstore_n 2, 1) := by decide +kernel
theorem dX9_quotientBits_13 : decode cX9_quotientBits 13 = .ok (.iconst 0, 1) := by decide +kernel
theorem dX9_quotientBits_14 : decode cX9_quotientBits 14 = .ok (.istore 4, 2) := by decide +kernel
theorem dX9_quotientBits_16 : decode cX9_quotientBits 16 = .ok (.iconst 0, 1) := by decide +kernel
theorem dX9_quotientBits_17 : decode cX9_quotientBits 17 = .ok (.istore 5, 2) := by decide +kernel
theorem dX9_quotientBits_19 : decode cX9_quotientBits 19 = .ok (.iload 5, 2) := by decide +kernel
theorem dX9_quotientBits_21 : decode cX9_quotientBits 21 = .ok (.bipush 60, 2) := by decide +kernel
theorem dX9_quotientBits_23 : decode cX9_quotientBits 23 = .ok (.if_icmp .ge 27, 3) := by decide +kernel
theorem dX9_quotientBits_26 : decode cX9_quotientBits 26 = .ok (.lload_n 2, 1) := by decide +kernel
theorem dX9_quotientBits_27 : decode cX9_quotientBits 27 = .ok (.iload_n 1, 1) := by decide +kernel
theorem dX9_quotientBits_28 : decode cX9_quotientBits 28 = .ok (.i2l, 1) := by decide +kernel
theorem dX9_quotientBits_29 : decode cX9_quotientBits 29 = .ok (.ldiv, 1) := by decide +kernel
theorem dX9_quotientBits_30 : decode cX9_quotientBits 30 = .ok (.ldc2_w 380, 3) := by decide +kernel
theorem dX9_quotientBits_33 : decode cX9_quotientBits 33 = .ok (.lcmp, 1) := by decide +kernel
theorem dX9_quotientBits_34 : decode cX9_quotientBits 34 = .ok (.ifCond .ge 16, 3) := by decide +kernel
theorem dX9_quotientBits_37 : decode cX9_quotientBits 37 = .ok (.lload_n 2, 1) := by decide +kernel
theorem dX9_quotientBits_38 : decode cX9_quotientBits 38 = .ok (.iconst 1, 1) := by decide +kernel
theorem dX9_quotientBits_39 : decode cX9_quotientBits 39 = .ok (.lshl, 1) := by decide +kernel
theorem dX9_quotientBits_40 : decode cX9_quotientBits 40 = .ok (.lstore_n 2, 1) := by decide +kernel
theorem dX9_quotientBits_41 : decode cX9_quotientBits 41 = .ok (.iinc 4 1, 3) := by decide +kernel
theorem dX9_quotientBits_44 : decode cX9_quotientBits 44 = .ok (.iinc 5 1, 3) := by decide +kernel
theorem dX9_quotientBits_47 : decode cX9_quotientBits 47 = .ok (.goto (-28), 3) := by decide +kernel
theorem dX9_quotientBits_50 : decode cX9_quotientBits 50 = .ok (.lload_n 2, 1) := by decide +kernel
theorem dX9_quotientBits_51 : decode cX9_quotientBits 51 = .ok (.iload_n 1, 1) := by decide +kernel
theorem dX9_quotientBits_52 : decode cX9_quotientBits 52 = .ok (.i2l, 1) := by decide +kernel
theorem dX9_quotientBits_53 : decode cX9_quotientBits 53 = .ok (.ldiv, 1) := by decide +kernel
theorem dX9_quotientBits_54 : decode cX9_quotientBits 54 = .ok (.lstore 5, 2) := by decide +kernel
theorem dX9_quotientBits_56 : decode cX9_quotientBits 56 = .ok (.ldc2_w 382, 3) := by decide +kernel
theorem dX9_quotientBits_59 : decode cX9_quotientBits 59 = .ok (.lload_n 2, 1) := by decide +kernel
theorem dX9_quotientBits_60 : decode cX9_quotientBits 60 = .ok (.iload_n 1, 1) := by decide +kernel
theorem dX9_quotientBits_61 : decode cX9_quotientBits 61 = .ok (.i2l, 1) := by decide +kernel
theorem dX9_quotientBits_62 : decode cX9_quotientBits 62 = .ok (.lrem, 1) := by decide +kernel
theorem dX9_quotientBits_63 : decode cX9_quotientBits 63 = .ok (.lmul, 1) := by decide +kernel
theorem dX9_quotientBits_64 : decode cX9_quotientBits 64 = .ok (.lstore 7, 2) := by decide +kernel
theorem dX9_quotientBits_66 : decode cX9_quotientBits 66 = .ok (.lload 7, 2) := by decide +kernel
theorem dX9_quotientBits_68 : decode cX9_quotientBits 68 = .ok (.iload_n 1, 1) := by decide +kernel
theorem dX9_quotientBits_69 : decode cX9_quotientBits 69 = .ok (.i2l, 1) := by decide +kernel
theorem dX9_quotientBits_70 : decode cX9_quotientBits 70 = .ok (.lcmp, 1) := by decide +kernel
theorem dX9_quotientBits_71 : decode cX9_quotientBits 71 = .ok (.ifCond .gt 20, 3) := by decide +kernel
theorem dX9_quotientBits_74 : decode cX9_quotientBits 74 = .ok (.lload 7, 2) := by decide +kernel
theorem dX9_quotientBits_76 : decode cX9_quotientBits 76 = .ok (.iload_n 1, 1) := by decide +kernel
theorem dX9_quotientBits_77 : decode cX9_quotientBits 77 = .ok (.i2l, 1) := by decide +kernel
theorem dX9_quotientBits_78 : decode cX9_quotientBits 78 = .ok (.lcmp, 1) := by decide +kernel
theorem dX9_quotientBits_79 : decode cX9_quotientBits 79 = .ok (.ifCond .ne 18, 3) := by decide +kernel
theorem dX9_quotientBits_82 : decode cX9_quotientBits 82 = .ok (.lload 5, 2) := by decide +kernel
theorem dX9_quotientBits_84 : decode cX9_quotientBits 84 = .ok (.lconst 1, 1) := by decide +kernel
theorem dX9_quotientBits_85 : decode cX9_quotientBits 85 = .ok (.land, 1) := by decide +kernel
theorem dX9_quotientBits_86 : decode cX9_quotientBits 86 = .ok (.lconst 0, 1) := by decide +kernel
theorem dX9_quotientBits_87 : decode cX9_quotientBits 87 = .ok (.lcmp, 1) := by decide +kernel
theorem dX9_quotientBits_88 : decode cX9_quotientBits 88 = .ok (.ifCond .eq 9, 3) := by decide +kernel
theorem dX9_quotientBits_91 : decode cX9_quotientBits 91 = .ok (.lload 5, 2) := by decide +kernel
theorem dX9_quotientBits_93 : decode cX9_quotientBits 93 = .ok (.lconst 1, 1) := by decide +kernel
theorem dX9_quotientBits_94 : decode cX9_quotientBits 94 = .ok (.ladd, 1) := by decide +kernel
theorem dX9_quotientBits_95 : decode cX9_quotientBits 95 = .ok (.lstore 5, 2) := by decide +kernel
theorem dX9_quotientBits_97 : decode cX9_quotientBits 97 = .ok (.sipush 1074, 3) := by decide +kernel
theorem dX9_quotientBits_100 : decode cX9_quotientBits 100 = .ok (.iload 4, 2) := by decide +kernel
theorem dX9_quotientBits_102 : decode cX9_quotientBits 102 = .ok (.isub, 1) := by decide +kernel
theorem dX9_quotientBits_103 : decode cX9_quotientBits 103 = .ok (.i2l, 1) := by decide +kernel
theorem dX9_quotientBits_104 : decode cX9_quotientBits 104 = .ok (.bipush 52, 2) := by decide +kernel
theorem dX9_quotientBits_106 : decode cX9_quotientBits 106 = .ok (.lshl, 1) := by decide +kernel
theorem dX9_quotientBits_107 : decode cX9_quotientBits 107 = .ok (.lload 5, 2) := by decide +kernel
theorem dX9_quotientBits_109 : decode cX9_quotientBits 109 = .ok (.ladd, 1) := by decide +kernel
theorem dX9_quotientBits_110 : decode cX9_quotientBits 110 = .ok (.lreturn, 1) := by decide +kernel
theorem dJxe99ae_isNaN_b9ae7_0 : decode cJxe99ae_isNaN_b9ae7 0 = .ok (.dload_n 0, 1) := by decide +kernel
theorem dJxe99ae_isNaN_b9ae7_1 : decode cJxe99ae_isNaN_b9ae7 1 = .ok (.dload_n 0, 1) := by decide +kernel
theorem dJxe99ae_isNaN_b9ae7_2 : decode cJxe99ae_isNaN_b9ae7 2 = .ok (.dcmp .l, 1) := by decide +kernel
theorem dJxe99ae_isNaN_b9ae7_3 : decode cJxe99ae_isNaN_b9ae7 3 = .ok (.ifCond .eq 7, 3) := by decide +kernel
theorem dJxe99ae_isNaN_b9ae7_6 : decode cJxe99ae_isNaN_b9ae7 6 = .ok (.iconst 1, 1) := by decide +kernel
theorem dJxe99ae_isNaN_b9ae7_7 : decode cJxe99ae_isNaN_b9ae7 7 = .ok (.goto 4, 3) := by decide +kernel
theorem dJxe99ae_isNaN_b9ae7_10 : decode cJxe99ae_isNaN_b9ae7 10 = .ok (.iconst 0, 1) := by decide +kernel
theorem dJxe99ae_isNaN_b9ae7_11 : decode cJxe99ae_isNaN_b9ae7 11 = .ok (.ireturn, 1) := by decide +kernel
theorem dJxe99ae_doubleToLongBits_ccdee_0 : decode cJxe99ae_doubleToLongBits_ccdee 0 = .ok (.dload_n 0, 1) := by decide +kernel
theorem dJxe99ae_doubleToLongBits_ccdee_1 : decode cJxe99ae_doubleToLongBits_ccdee 1 = .ok (.invokestatic 122, 3) := by decide +kernel
theorem dJxe99ae_doubleToLongBits_ccdee_4 : decode cJxe99ae_doubleToLongBits_ccdee 4 = .ok (.ifCond .ne 8, 3) := by decide +kernel
theorem dJxe99ae_doubleToLongBits_ccdee_7 : decode cJxe99ae_doubleToLongBits_ccdee 7 = .ok (.dload_n 0, 1) := by decide +kernel
theorem dJxe99ae_doubleToLongBits_ccdee_8 : decode cJxe99ae_doubleToLongBits_ccdee 8 = .ok (.invokestatic 134, 3) := by decide +kernel
theorem dJxe99ae_doubleToLongBits_ccdee_11 : decode cJxe99ae_doubleToLongBits_ccdee 11 = .ok (.lreturn, 1) := by decide +kernel
theorem dJxe99ae_doubleToLongBits_ccdee_12 : decode cJxe99ae_doubleToLongBits_ccdee 12 = .ok (.ldc2_w 137, 3) := by decide +kernel
theorem dJxe99ae_doubleToLongBits_ccdee_15 : decode cJxe99ae_doubleToLongBits_ccdee 15 = .ok (.lreturn, 1) := by decide +kernel
theorem dJ6_bitCount_0f7a4_0 : decode cJ6_bitCount_0f7a4 0 = .ok (.iload_n 0, 1) := by decide +kernel
theorem dJ6_bitCount_0f7a4_1 : decode cJ6_bitCount_0f7a4 1 = .ok (.iload_n 0, 1) := by decide +kernel
theorem dJ6_bitCount_0f7a4_2 : decode cJ6_bitCount_0f7a4 2 = .ok (.iconst 1, 1) := by decide +kernel
theorem dJ6_bitCount_0f7a4_3 : decode cJ6_bitCount_0f7a4 3 = .ok (.iushr, 1) := by decide +kernel
theorem dJ6_bitCount_0f7a4_4 : decode cJ6_bitCount_0f7a4 4 = .ok (.ldc_w 265, 3) := by decide +kernel
theorem dJ6_bitCount_0f7a4_7 : decode cJ6_bitCount_0f7a4 7 = .ok (.iand, 1) := by decide +kernel
theorem dJ6_bitCount_0f7a4_8 : decode cJ6_bitCount_0f7a4 8 = .ok (.isub, 1) := by decide +kernel
theorem dJ6_bitCount_0f7a4_9 : decode cJ6_bitCount_0f7a4 9 = .ok (.istore_n 0, 1) := by decide +kernel
theorem dJ6_bitCount_0f7a4_10 : decode cJ6_bitCount_0f7a4 10 = .ok (.iload_n 0, 1) := by decide +kernel
theorem dJ6_bitCount_0f7a4_11 : decode cJ6_bitCount_0f7a4 11 = .ok (.ldc_w 266, 3) := by decide +kernel
theorem dJ6_bitCount_0f7a4_14 : decode cJ6_bitCount_0f7a4 14 = .ok (.iand, 1) := by decide +kernel
theorem dJ6_bitCount_0f7a4_15 : decode cJ6_bitCount_0f7a4 15 = .ok (.iload_n 0, 1) := by decide +kernel
theorem dJ6_bitCount_0f7a4_16 : decode cJ6_bitCount_0f7a4 16 = .ok (.iconst 2, 1) := by decide +kernel
theorem dJ6_bitCount_0f7a4_17 : decode cJ6_bitCount_0f7a4 17 = .ok (.iushr, 1) := by decide +kernel
theorem dJ6_bitCount_0f7a4_18 : decode cJ6_bitCount_0f7a4 18 = .ok (.ldc_w 266, 3) := by decide +kernel
theorem dJ6_bitCount_0f7a4_21 : decode cJ6_bitCount_0f7a4 21 = .ok (.iand, 1) := by decide +kernel
theorem dJ6_bitCount_0f7a4_22 : decode cJ6_bitCount_0f7a4 22 = .ok (.iadd, 1) := by decide +kernel
theorem dJ6_bitCount_0f7a4_23 : decode cJ6_bitCount_0f7a4 23 = .ok (.istore_n 0, 1) := by decide +kernel
theorem dJ6_bitCount_0f7a4_24 : decode cJ6_bitCount_0f7a4 24 = .ok (.iload_n 0, 1) := by decide +kernel
theorem dJ6_bitCount_0f7a4_25 : decode cJ6_bitCount_0f7a4 25 = .ok (.iload_n 0, 1) := by decide +kernel
theorem dJ6_bitCount_0f7a4_26 : decode cJ6_bitCount_0f7a4 26 = .ok (.iconst 4, 1) := by decide +kernel
theorem dJ6_bitCount_0f7a4_27 : decode cJ6_bitCount_0f7a4 27 = .ok (.iushr, 1) := by decide +kernel
theorem dJ6_bitCount_0f7a4_28 : decode cJ6_bitCount_0f7a4 28 = .ok (.iadd, 1) := by decide +kernel
theorem dJ6_bitCount_0f7a4_29 : decode cJ6_bitCount_0f7a4 29 = .ok (.ldc_w 267, 3) := by decide +kernel
theorem dJ6_bitCount_0f7a4_32 : decode cJ6_bitCount_0f7a4 32 = .ok (.iand, 1) := by decide +kernel
theorem dJ6_bitCount_0f7a4_33 : decode cJ6_bitCount_0f7a4 33 = .ok (.istore_n 0, 1) := by decide +kernel
theorem dJ6_bitCount_0f7a4_34 : decode cJ6_bitCount_0f7a4 34 = .ok (.iload_n 0, 1) := by decide +kernel
theorem dJ6_bitCount_0f7a4_35 : decode cJ6_bitCount_0f7a4 35 = .ok (.iload_n 0, 1) := by decide +kernel
theorem dJ6_bitCount_0f7a4_36 : decode cJ6_bitCount_0f7a4 36 = .ok (.bipush 8, 2) := by decide +kernel
theorem dJ6_bitCount_0f7a4_38 : decode cJ6_bitCount_0f7a4 38 = .ok (.iushr, 1) := by decide +kernel
theorem dJ6_bitCount_0f7a4_39 : decode cJ6_bitCount_0f7a4 39 = .ok (.iadd, 1) := by decide +kernel
theorem dJ6_bitCount_0f7a4_40 : decode cJ6_bitCount_0f7a4 40 = .ok (.istore_n 0, 1) := by decide +kernel
theorem dJ6_bitCount_0f7a4_41 : decode cJ6_bitCount_0f7a4 41 = .ok (.iload_n 0, 1) := by decide +kernel
theorem dJ6_bitCount_0f7a4_42 : decode cJ6_bitCount_0f7a4 42 = .ok (.iload_n 0, 1) := by decide +kernel
theorem dJ6_bitCount_0f7a4_43 : decode cJ6_bitCount_0f7a4 43 = .ok (.bipush 16, 2) := by decide +kernel
theorem dJ6_bitCount_0f7a4_45 : decode cJ6_bitCount_0f7a4 45 = .ok (.iushr, 1) := by decide +kernel
theorem dJ6_bitCount_0f7a4_46 : decode cJ6_bitCount_0f7a4 46 = .ok (.iadd, 1) := by decide +kernel
theorem dJ6_bitCount_0f7a4_47 : decode cJ6_bitCount_0f7a4 47 = .ok (.istore_n 0, 1) := by decide +kernel
theorem dJ6_bitCount_0f7a4_48 : decode cJ6_bitCount_0f7a4 48 = .ok (.iload_n 0, 1) := by decide +kernel
theorem dJ6_bitCount_0f7a4_49 : decode cJ6_bitCount_0f7a4 49 = .ok (.bipush 63, 2) := by decide +kernel
theorem dJ6_bitCount_0f7a4_51 : decode cJ6_bitCount_0f7a4 51 = .ok (.iand, 1) := by decide +kernel
theorem dJ6_bitCount_0f7a4_52 : decode cJ6_bitCount_0f7a4 52 = .ok (.ireturn, 1) := by decide +kernel
theorem dJ13_bitCount_95d88_0 : decode cJ13_bitCount_95d88 0 = .ok (.lload_n 0, 1) := by decide +kernel
theorem dJ13_bitCount_95d88_1 : decode cJ13_bitCount_95d88 1 = .ok (.lload_n 0, 1) := by decide +kernel
theorem dJ13_bitCount_95d88_2 : decode cJ13_bitCount_95d88 2 = .ok (.iconst 1, 1) := by decide +kernel
theorem dJ13_bitCount_95d88_3 : decode cJ13_bitCount_95d88 3 = .ok (.lushr, 1) := by decide +kernel
theorem dJ13_bitCount_95d88_4 : decode cJ13_bitCount_95d88 4 = .ok (.ldc2_w 314, 3) := by decide +kernel
theorem dJ13_bitCount_95d88_7 : decode cJ13_bitCount_95d88 7 = .ok (.land, 1) := by decide +kernel
theorem dJ13_bitCount_95d88_8 : decode cJ13_bitCount_95d88 8 = .ok (.lsub, 1) := by decide +kernel
theorem dJ13_bitCount_95d88_9 : decode cJ13_bitCount_95d88 9 = .ok (.lstore_n 0, 1) := by decide +kernel
theorem dJ13_bitCount_95d88_10 : decode cJ13_bitCount_95d88 10 = .ok (.lload_n 0, 1) := by decide +kernel
theorem dJ13_bitCount_95d88_11 : decode cJ13_bitCount_95d88 11 = .ok (.ldc2_w 316, 3) := by decide +kernel
theorem dJ13_bitCount_95d88_14 : decode cJ13_bitCount_95d88 14 = .ok (.land, 1) := by decide +kernel
theorem dJ13_bitCount_95d88_15 : decode cJ13_bitCount_95d88 15 = .ok (.lload_n 0, 1) := by decide +kernel
theorem dJ13_bitCount_95d88_16 : decode cJ13_bitCount_95d88 16 = .ok (.iconst 2, 1) := by decide +kernel
theorem dJ13_bitCount_95d88_17 : decode cJ13_bitCount_95d88 17 = .ok (.lushr, 1) := by decide +kernel
theorem dJ13_bitCount_95d88_18 : decode cJ13_bitCount_95d88 18 = .ok (.ldc2_w 316, 3) := by decide +kernel
theorem dJ13_bitCount_95d88_21 : decode cJ13_bitCount_95d88 21 = .ok (.land, 1) := by decide +kernel
theorem dJ13_bitCount_95d88_22 : decode cJ13_bitCount_95d88 22 = .ok (.ladd, 1) := by decide +kernel
theorem dJ13_bitCount_95d88_23 : decode cJ13_bitCount_95d88 23 = .ok (.lstore_n 0, 1) := by decide +kernel
theorem dJ13_bitCount_95d88_24 : decode cJ13_bitCount_95d88 24 = .ok (.lload_n 0, 1) := by decide +kernel
theorem dJ13_bitCount_95d88_25 : decode cJ13_bitCount_95d88 25 = .ok (.lload_n 0, 1) := by decide +kernel
theorem dJ13_bitCount_95d88_26 : decode cJ13_bitCount_95d88 26 = .ok (.iconst 4, 1) := by decide +kernel
theorem dJ13_bitCount_95d88_27 : decode cJ13_bitCount_95d88 27 = .ok (.lushr, 1) := by decide +kernel
theorem dJ13_bitCount_95d88_28 : decode cJ13_bitCount_95d88 28 = .ok (.ladd, 1) := by decide +kernel
theorem dJ13_bitCount_95d88_29 : decode cJ13_bitCount_95d88 29 = .ok (.ldc2_w 318, 3) := by decide +kernel
theorem dJ13_bitCount_95d88_32 : decode cJ13_bitCount_95d88 32 = .ok (.land, 1) := by decide +kernel
theorem dJ13_bitCount_95d88_33 : decode cJ13_bitCount_95d88 33 = .ok (.lstore_n 0, 1) := by decide +kernel
theorem dJ13_bitCount_95d88_34 : decode cJ13_bitCount_95d88 34 = .ok (.lload_n 0, 1) := by decide +kernel
theorem dJ13_bitCount_95d88_35 : decode cJ13_bitCount_95d88 35 = .ok (.lload_n 0, 1) := by decide +kernel
theorem dJ13_bitCount_95d88_36 : decode cJ13_bitCount_95d88 36 = .ok (.bipush 8, 2) := by decide +kernel
theorem dJ13_bitCount_95d88_38 : decode cJ13_bitCount_95d88 38 = .ok (.lushr, 1) := by decide +kernel
theorem dJ13_bitCount_95d88_39 : decode cJ13_bitCount_95d88 39 = .ok (.ladd, 1) := by decide +kernel
theorem dJ13_bitCount_95d88_40 : decode cJ13_bitCount_95d88 40 = .ok (.lstore_n 0, 1) := by decide +kernel
theorem dJ13_bitCount_95d88_41 : decode cJ13_bitCount_95d88 41 = .ok (.lload_n 0, 1) := by decide +kernel
theorem dJ13_bitCount_95d88_42 : decode cJ13_bitCount_95d88 42 = .ok (.lload_n 0, 1) := by decide +kernel
theorem dJ13_bitCount_95d88_43 : decode cJ13_bitCount_95d88 43 = .ok (.bipush 16, 2) := by decide +kernel
theorem dJ13_bitCount_95d88_45 : decode cJ13_bitCount_95d88 45 = .ok (.lushr, 1) := by decide +kernel
theorem dJ13_bitCount_95d88_46 : decode cJ13_bitCount_95d88 46 = .ok (.ladd, 1) := by decide +kernel
theorem dJ13_bitCount_95d88_47 : decode cJ13_bitCount_95d88 47 = .ok (.lstore_n 0, 1) := by decide +kernel
theorem dJ13_bitCount_95d88_48 : decode cJ13_bitCount_95d88 48 = .ok (.lload_n 0, 1) := by decide +kernel
theorem dJ13_bitCount_95d88_49 : decode cJ13_bitCount_95d88 49 = .ok (.lload_n 0, 1) := by decide +kernel
theorem dJ13_bitCount_95d88_50 : decode cJ13_bitCount_95d88 50 = .ok (.bipush 32, 2) := by decide +kernel
theorem dJ13_bitCount_95d88_52 : decode cJ13_bitCount_95d88 52 = .ok (.lushr, 1) := by decide +kernel
theorem dJ13_bitCount_95d88_53 : decode cJ13_bitCount_95d88 53 = .ok (.ladd, 1) := by decide +kernel
theorem dJ13_bitCount_95d88_54 : decode cJ13_bitCount_95d88 54 = .ok (.lstore_n 0, 1) := by decide +kernel
theorem dJ13_bitCount_95d88_55 : decode cJ13_bitCount_95d88 55 = .ok (.lload_n 0, 1) := by decide +kernel
theorem dJ13_bitCount_95d88_56 : decode cJ13_bitCount_95d88 56 = .ok (.l2i, 1) := by decide +kernel
theorem dJ13_bitCount_95d88_57 : decode cJ13_bitCount_95d88 57 = .ok (.bipush 127, 2) := by decide +kernel
theorem dJ13_bitCount_95d88_59 : decode cJ13_bitCount_95d88 59 = .ok (.iand, 1) := by decide +kernel
theorem dJ13_bitCount_95d88_60 : decode cJ13_bitCount_95d88 60 = .ok (.ireturn, 1) := by decide +kernel
theorem dJ9_abs_0f7a4_0 : decode cJ9_abs_0f7a4 0 = .ok (.iload_n 0, 1) := by decide +kernel
theorem dJ9_abs_0f7a4_1 : decode cJ9_abs_0f7a4 1 = .ok (.ifCond .ge 8, 3) := by decide +kernel
theorem dJ9_abs_0f7a4_4 : decode cJ9_abs_0f7a4 4 = .ok (.iload_n 0, 1) := by decide +kernel
theorem dJ9_abs_0f7a4_5 : decode cJ9_abs_0f7a4 5 = .ok (.ineg, 1) := by decide +kernel
theorem dJ9_abs_0f7a4_6 : decode cJ9_abs_0f7a4 6 = .ok (.goto 4, 3) := by decide +kernel
theorem dJ9_abs_0f7a4_9 : decode cJ9_abs_0f7a4 9 = .ok (.iload_n 0, 1) := by decide +kernel
theorem dJ9_abs_0f7a4_10 : decode cJ9_abs_0f7a4 10 = .ok (.ireturn, 1) := by decide +kernel
theorem dJ9_max_7cf53_0 : decode cJ9_max_7cf53 0 = .ok (.iload_n 0, 1) := by decide +kernel
theorem dJ9_max_7cf53_1 : decode cJ9_max_7cf53 1 = .ok (.iload_n 1, 1) := by decide +kernel
theorem dJ9_max_7cf53_2 : decode cJ9_max_7cf53 2 = .ok (.if_icmp .lt 7, 3) := by decide +kernel
theorem dJ9_max_7cf53_5 : decode cJ9_max_7cf53 5 = .ok (.iload_n 0, 1) := by decide +kernel
theorem dJ9_max_7cf53_6 : decode cJ9_max_7cf53 6 = .ok (.goto 4, 3) := by decide +kernel
theorem dJ9_max_7cf53_9 : decode cJ9_max_7cf53 9 = .ok (.iload_n 1, 1) := by decide +kernel
theorem dJ9_max_7cf53_10 : decode cJ9_max_7cf53 10 = .ok (.ireturn, 1) := by decide +kernel
theorem dJ9_min_7cf53_0 : decode cJ9_min_7cf53 0 = .ok (.iload_n 0, 1) := by decide +kernel
theorem dJ9_min_7cf53_1 : decode cJ9_min_7cf53 1 = .ok (.iload_n 1, 1) := by decide +kernel
theorem dJ9_min_7cf53_2 : decode cJ9_min_7cf53 2 = .ok (.if_icmp .gt 7, 3) := by decide +kernel
theorem dJ9_min_7cf53_5 : decode cJ9_min_7cf53 5 = .ok (.iload_n 0, 1) := by decide +kernel
theorem dJ9_min_7cf53_6 : decode cJ9_min_7cf53 6 = .ok (.goto 4, 3) := by decide +kernel
theorem dJ9_min_7cf53_9 : decode cJ9_min_7cf53 9 = .ok (.iload_n 1, 1) := by decide +kernel
theorem dJ9_min_7cf53_10 : decode cJ9_min_7cf53 10 = .ok (.ireturn, 1) := by decide +kernel
theorem dJ0_length_8abf5_0 : decode cJ0_length_8abf5 0 = .ok (.aload_n 0, 1) := by decide +kernel
theorem dJ0_length_8abf5_1 : decode cJ0_length_8abf5 1 = .ok (.getfield 9, 3) := by decide +kernel
theorem dJ0_length_8abf5_4 : decode cJ0_length_8abf5 4 = .ok (.arraylength, 1) := by decide +kernel
theorem dJ0_length_8abf5_5 : decode cJ0_length_8abf5 5 = .ok (.aload_n 0, 1) := by decide +kernel
theorem dJ0_length_8abf5_6 : decode cJ0_length_8abf5 6 = .ok (.invokevirtual 335, 3) := by decide +kernel
theorem dJ0_length_8abf5_9 : decode cJ0_length_8abf5 9 = .ok (.ishr, 1) := by decide +kernel
theorem dJ0_length_8abf5_10 : decode cJ0_length_8abf5 10 = .ok (.ireturn, 1) := by decide +kernel
theorem dJ0_charAt_5068e_0 : decode cJ0_charAt_5068e 0 = .ok (.aload_n 0, 1) := by decide +kernel
theorem dJ0_charAt_5068e_1 : decode cJ0_charAt_5068e 1 = .ok (.invokevirtual 492, 3) := by decide +kernel
theorem dJ0_charAt_5068e_4 : decode cJ0_charAt_5068e 4 = .ok (.ifCond .eq 12, 3) := by decide +kernel
theorem dJ0_charAt_5068e_7 : decode cJ0_charAt_5068e 7 = .ok (.aload_n 0, 1) := by decide +kernel
theorem dJ0_charAt_5068e_8 : decode cJ0_charAt_5068e 8 = .ok (.getfield 9, 3) := by decide +kernel
theorem dJ0_charAt_5068e_11 : decode cJ0_charAt_5068e 11 = .ok (.iload_n 1, 1) := by decide +kernel
theorem dJ0_charAt_5068e_12 : decode cJ0_charAt_5068e 12 = .ok (.invokestatic 495, 3) := by decide +kernel
theorem dJ0_charAt_5068e_15 : decode cJ0_charAt_5068e 15 = .ok (.ireturn, 1) := by decide +kernel
theorem dJ0_charAt_5068e_16 : decode cJ0_charAt_5068e 16 = .ok (.aload_n 0, 1) := by decide +kernel
theorem dJ0_charAt_5068e_17 : decode cJ0_charAt_5068e 17 = .ok (.getfield 9, 3) := by decide +kernel
theorem dJ0_charAt_5068e_20 : decode cJ0_charAt_5068e 20 = .ok (.iload_n 1, 1) := by decide +kernel
theorem dJ0_charAt_5068e_21 : decode cJ0_charAt_5068e 21 = .ok (.invokestatic 498, 3) := by decide +kernel
theorem dJ0_charAt_5068e_24 : decode cJ0_charAt_5068e 24 = .ok (.ireturn, 1) := by decide +kernel
theorem dJ0_coder_7d493_0 : decode cJ0_coder_7d493 0 = .ok (.getstatic 38, 3) := by decide +kernel
theorem dJ0_coder_7d493_3 : decode cJ0_coder_7d493 3 = .ok (.ifCond .eq 10, 3) := by decide +kernel
theorem dJ0_coder_7d493_6 : decode cJ0_coder_7d493 6 = .ok (.aload_n 0, 1) := by decide +kernel
theorem dJ0_coder_7d493_7 : decode cJ0_coder_7d493 7 = .ok (.getfield 15, 3) := by decide +kernel
theorem dJ0_coder_7d493_10 : decode cJ0_coder_7d493 10 = .ok (.goto 4, 3) := by decide +kernel
theorem dJ0_coder_7d493_13 : decode cJ0_coder_7d493 13 = .ok (.iconst 1, 1) := by decide +kernel
theorem dJ0_coder_7d493_14 : decode cJ0_coder_7d493 14 = .ok (.ireturn, 1) := by decide +kernel
theorem dJ0_isLatin1_aae02_0 : decode cJ0_isLatin1_aae02 0 = .ok (.getstatic 38, 3) := by decide +kernel
theorem dJ0_isLatin1_aae02_3 : decode cJ0_isLatin1_aae02 3 = .ok (.ifCond .eq 14, 3) := by decide +kernel
theorem dJ0_isLatin1_aae02_6 : decode cJ0_isLatin1_aae02 6 = .ok (.aload_n 0, 1) := by decide +kernel
theorem dJ0_isLatin1_aae02_7 : decode cJ0_isLatin1_aae02 7 = .ok (.getfield 15, 3) := by decide +kernel
theorem dJ0_isLatin1_aae02_10 : decode cJ0_isLatin1_aae02 10 = .ok (.ifCond .ne 7, 3) := by decide +kernel
theorem dJ0_isLatin1_aae02_13 : decode cJ0_isLatin1_aae02 13 = .ok (.iconst 1, 1) := by decide +kernel
theorem dJ0_isLatin1_aae02_14 : decode cJ0_isLatin1_aae02 14 = .ok (.goto 4, 3) := by decide +kernel
theorem dJ0_isLatin1_aae02_17 : decode cJ0_isLatin1_aae02 17 = .ok (.iconst 0, 1) := by decide +kernel
theorem dJ0_isLatin1_aae02_18 : decode cJ0_isLatin1_aae02 18 = .ok (.ireturn, 1) := by decide +kernel
theorem dJ0_checkIndex_df160_0 : decode cJ0_checkIndex_df160 0 = .ok (.iload_n 0, 1) := by decide +kernel
theorem dJ0_checkIndex_df160_1 : decode cJ0_checkIndex_df160 1 = .ok (.iload_n 1, 1) := by decide +kernel
theorem dJ0_checkIndex_df160_2 : decode cJ0_checkIndex_df160 2 = .ok (.getstatic 1053, 3) := by decide +kernel
theorem dJ0_checkIndex_df160_5 : decode cJ0_checkIndex_df160 5 = .ok (.invokestatic 1059, 3) := by decide +kernel
theorem dJ0_checkIndex_df160_8 : decode cJ0_checkIndex_df160 8 = .ok (.pop, 1) := by decide +kernel
theorem dJ0_checkIndex_df160_9 : decode cJ0_checkIndex_df160 9 = .ok (.return_, 1) := by decide +kernel
theorem dJ1_charAt_3b067_0 : decode cJ1_charAt_3b067 0 = .ok (.iload_n 1, 1) := by decide +kernel
theorem dJ1_charAt_3b067_1 : decode cJ1_charAt_3b067 1 = .ok (.aload_n 0, 1) := by decide +kernel
theorem dJ1_charAt_3b067_2 : decode cJ1_charAt_3b067 2 = .ok (.arraylength, 1) := by decide +kernel
theorem dJ1_charAt_3b067_3 : decode cJ1_charAt_3b067 3 = .ok (.invokestatic 9, 3) := by decide +kernel
theorem dJ1_charAt_3b067_6 : decode cJ1_charAt_3b067 6 = .ok (.aload_n 0, 1) := by decide +kernel
theorem dJ1_charAt_3b067_7 : decode cJ1_charAt_3b067 7 = .ok (.iload_n 1, 1) := by decide +kernel
theorem dJ1_charAt_3b067_8 : decode cJ1_charAt_3b067 8 = .ok (.baload, 1) := by decide +kernel
theorem dJ1_charAt_3b067_9 : decode cJ1_charAt_3b067 9 = .ok (.sipush 255, 3) := by decide +kernel
theorem dJ1_charAt_3b067_12 : decode cJ1_charAt_3b067 12 = .ok (.iand, 1) := by decide +kernel
theorem dJ1_charAt_3b067_13 : decode cJ1_charAt_3b067 13 = .ok (.i2c, 1) := by decide +kernel
theorem dJ1_charAt_3b067_14 : decode cJ1_charAt_3b067 14 = .ok (.ireturn, 1) := by decide +kernel
theorem dJ7_fill_53178_0 : decode cJ7_fill_53178 0 = .ok (.iconst 0, 1) := by decide +kernel
theorem dJ7_fill_53178_1 : decode cJ7_fill_53178 1 = .ok (.istore_n 2, 1) := by decide +kernel
theorem dJ7_fill_53178_2 : decode cJ7_fill_53178 2 = .ok (.aload_n 0, 1) := by decide +kernel
theorem dJ7_fill_53178_3 : decode cJ7_fill_53178 3 = .ok (.arraylength, 1) := by decide +kernel
theorem dJ7_fill_53178_4 : decode cJ7_fill_53178 4 = .ok (.istore_n 3, 1) := by decide +kernel
theorem dJ7_fill_53178_5 : decode cJ7_fill_53178 5 = .ok (.iload_n 2, 1) := by decide +kernel
theorem dJ7_fill_53178_6 : decode cJ7_fill_53178 6 = .ok (.iload_n 3, 1) := by decide +kernel
theorem dJ7_fill_53178_7 : decode cJ7_fill_53178 7 = .ok (.if_icmp .ge 13, 3) := by decide +kernel
theorem dJ7_fill_53178_10 : decode cJ7_fill_53178 10 = .ok (.aload_n 0, 1) := by decide +kernel
theorem dJ7_fill_53178_11 : decode cJ7_fill_53178 11 = .ok (.iload_n 2, 1) := by decide +kernel
theorem dJ7_fill_53178_12 : decode cJ7_fill_53178 12 = .ok (.iload_n 1, 1) := by decide +kernel
theorem dJ7_fill_53178_13 : decode cJ7_fill_53178 13 = .ok (.iastore, 1) := by decide +kernel
theorem dJ7_fill_53178_14 : decode cJ7_fill_53178 14 = .ok (.iinc 2 1, 3) := by decide +kernel
theorem dJ7_fill_53178_17 : decode cJ7_fill_53178 17 = .ok (.goto (-12), 3) := by decide +kernel
theorem dJ7_fill_53178_20 : decode cJ7_fill_53178 20 = .ok (.return_, 1) := by decide +kernel
theorem dJ7_copyOf_c38d5_0 : decode cJ7_copyOf_c38d5 0 = .ok (.iload_n 1, 1) := by decide +kernel
theorem dJ7_copyOf_c38d5_1 : decode cJ7_copyOf_c38d5 1 = .ok (.aload_n 0, 1) := by decide +kernel
theorem dJ7_copyOf_c38d5_2 : decode cJ7_copyOf_c38d5 2 = .ok (.arraylength, 1) := by decide +kernel
theorem dJ7_copyOf_c38d5_3 : decode cJ7_copyOf_c38d5 3 = .ok (.if_icmp .ne 11, 3) := by decide +kernel
theorem dJ7_copyOf_c38d5_6 : decode cJ7_copyOf_c38d5 6 = .ok (.aload_n 0, 1) := by decide +kernel
theorem dJ7_copyOf_c38d5_7 : decode cJ7_copyOf_c38d5 7 = .ok (.invokevirtual 319, 3) := by decide +kernel
theorem dJ7_copyOf_c38d5_10 : decode cJ7_copyOf_c38d5 10 = .ok (.checkcast 320, 3) := by decide +kernel
theorem dJ7_copyOf_c38d5_13 : decode cJ7_copyOf_c38d5 13 = .ok (.areturn, 1) := by decide +kernel
theorem dJ7_copyOf_c38d5_14 : decode cJ7_copyOf_c38d5 14 = .ok (.iload_n 1, 1) := by decide +kernel
theorem dJ7_copyOf_c38d5_15 : decode cJ7_copyOf_c38d5 15 = .ok (.newarray .long, 2) := by decide +kernel
theorem dJ7_copyOf_c38d5_17 : decode cJ7_copyOf_c38d5 17 = .ok (.astore_n 2, 1) := by decide +kernel
theorem dJ7_copyOf_c38d5_18 : decode cJ7_copyOf_c38d5 18 = .ok (.aload_n 0, 1) := by decide +kernel
theorem dJ7_copyOf_c38d5_19 : decode cJ7_copyOf_c38d5 19 = .ok (.iconst 0, 1) := by decide +kernel
theorem dJ7_copyOf_c38d5_20 : decode cJ7_copyOf_c38d5 20 = .ok (.aload_n 2, 1) := by decide +kernel
theorem dJ7_copyOf_c38d5_21 : decode cJ7_copyOf_c38d5 21 = .ok (.iconst 0, 1) := by decide +kernel
theorem dJ7_copyOf_c38d5_22 : decode cJ7_copyOf_c38d5 22 = .ok (.aload_n 0, 1) := by decide +kernel
theorem dJ7_copyOf_c38d5_23 : decode cJ7_copyOf_c38d5 23 = .ok (.arraylength, 1) := by decide +kernel
theorem dJ7_copyOf_c38d5_24 : decode cJ7_copyOf_c38d5 24 = .ok (.iload_n 1, 1) := by decide +kernel
theorem dJ7_copyOf_c38d5_25 : decode cJ7_copyOf_c38d5 25 = .ok (.invokestatic 304, 3) := by decide +kernel
theorem dJ7_copyOf_c38d5_28 : decode cJ7_copyOf_c38d5 28 = .ok (.invokestatic 150, 3) := by decide +kernel
theorem dJ7_copyOf_c38d5_31 : decode cJ7_copyOf_c38d5 31 = .ok (.aload_n 2, 1) := by decide +kernel
theorem dJ7_copyOf_c38d5_32 : decode cJ7_copyOf_c38d5 32 = .ok (.areturn, 1) := by decide +kernel
theorem dJ3_checkIndex_8e157_0 : decode cJ3_checkIndex_8e157 0 = .ok (.iload_n 0, 1) := by decide +kernel
theorem dJ3_checkIndex_8e157_1 : decode cJ3_checkIndex_8e157 1 = .ok (.ifCond .lt 8, 3) := by decide +kernel
theorem dJ3_checkIndex_8e157_4 : decode cJ3_checkIndex_8e157 4 = .ok (.iload_n 0, 1) := by decide +kernel
theorem dJ3_checkIndex_8e157_5 : decode cJ3_checkIndex_8e157 5 = .ok (.iload_n 1, 1) := by decide +kernel
theorem dJ3_checkIndex_8e157_6 : decode cJ3_checkIndex_8e157 6 = .ok (.if_icmp .lt 10, 3) := by decide +kernel
theorem dJ3_checkIndex_8e157_9 : decode cJ3_checkIndex_8e157 9 = .ok (.aload_n 2, 1) := by decide +kernel
theorem dJ3_checkIndex_8e157_10 : decode cJ3_checkIndex_8e157 10 = .ok (.iload_n 0, 1) := by decide +kernel
theorem dJ3_checkIndex_8e157_11 : decode cJ3_checkIndex_8e157 11 = .ok (.iload_n 1, 1) := by decide +kernel
theorem dJ3_checkIndex_8e157_12 : decode cJ3_checkIndex_8e157 12 = .ok (.invokestatic 95, 3) := by decide +kernel
theorem dJ3_checkIndex_8e157_15 : decode cJ3_checkIndex_8e157 15 = .ok (.athrow, 1) := by decide +kernel
theorem dJ3_checkIndex_8e157_16 : decode cJ3_checkIndex_8e157 16 = .ok (.iload_n 0, 1) := by decide +kernel
theorem dJ3_checkIndex_8e157_17 : decode cJ3_checkIndex_8e157 17 = .ok (.ireturn, 1) := by decide +kernel
