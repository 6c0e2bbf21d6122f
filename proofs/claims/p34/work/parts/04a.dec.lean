theorem dX0_init_0 : decode cX0_init 0 = .ok (.aload_n 0, 1) := by decide +kernel
theorem dX0_init_1 : decode cX0_init 1 = .ok (.invokespecial 3, 3) := by decide +kernel
theorem dX0_init_4 : decode cX0_init 4 = .ok (.aload_n 0, 1) := by decide +kernel
theorem dX0_init_5 : decode cX0_init 5 = .ok (.bipush 20, 2) := by decide +kernel
theorem dX0_init_7 : decode cX0_init 7 = .ok (.anewarray 11, 3) := by decide +kernel
theorem dX0_init_10 : decode cX0_init 10 = .ok (.putfield 13, 3) := by decide +kernel
theorem dX0_init_13 : decode cX0_init 13 = .ok (.aload_n 0, 1) := by decide +kernel
theorem dX0_init_14 : decode cX0_init 14 = .ok (.bipush 20, 2) := by decide +kernel
theorem dX0_init_16 : decode cX0_init 16 = .ok (.newarray .int, 2) := by decide +kernel
theorem dX0_init_18 : decode cX0_init 18 = .ok (.putfield 17, 3) := by decide +kernel
theorem dX0_init_21 : decode cX0_init 21 = .ok (.aload_n 0, 1) := by decide +kernel
theorem dX0_init_22 : decode cX0_init 22 = .ok (.bipush 20, 2) := by decide +kernel
theorem dX0_init_24 : decode cX0_init 24 = .ok (.newarray .int, 2) := by decide +kernel
theorem dX0_init_26 : decode cX0_init 26 = .ok (.putfield 21, 3) := by decide +kernel
theorem dX0_init_29 : decode cX0_init 29 = .ok (.aload_n 0, 1) := by decide +kernel
theorem dX0_init_30 : decode cX0_init 30 = .ok (.bipush 30, 2) := by decide +kernel
theorem dX0_init_32 : decode cX0_init 32 = .ok (.newarray .int, 2) := by decide +kernel
theorem dX0_init_34 : decode cX0_init 34 = .ok (.putfield 24, 3) := by decide +kernel
theorem dX0_init_37 : decode cX0_init 37 = .ok (.aload_n 0, 1) := by decide +kernel
theorem dX0_init_38 : decode cX0_init 38 = .ok (.bipush 30, 2) := by decide +kernel
theorem dX0_init_40 : decode cX0_init 40 = .ok (.newarray .int, 2) := by decide +kernel
theorem dX0_init_42 : decode cX0_init 42 = .ok (.putfield 27, 3) := by decide +kernel
theorem dX0_init_45 : decode cX0_init 45 = .ok (.aload_n 0, 1) := by decide +kernel
theorem dX0_init_46 : decode cX0_init 46 = .ok (.bipush 30, 2) := by decide +kernel
theorem dX0_init_48 : decode cX0_init 48 = .ok (.newarray .int, 2) := by decide +kernel
theorem dX0_init_50 : decode cX0_init 50 = .ok (.putfield 30, 3) := by decide +kernel
theorem dX0_init_53 : decode cX0_init 53 = .ok (.iconst 0, 1) := by decide +kernel
theorem dX0_init_54 : decode cX0_init 54 = .ok (.istore_n 1, 1) := by decide +kernel
theorem dX0_init_55 : decode cX0_init 55 = .ok (.iload_n 1, 1) := by decide +kernel
theorem dX0_init_56 : decode cX0_init 56 = .ok (.bipush 20, 2) := by decide +kernel
theorem dX0_init_58 : decode cX0_init 58 = .ok (.if_icmp .ge 22, 3) := by decide +kernel
theorem dX0_init_61 : decode cX0_init 61 = .ok (.aload_n 0, 1) := by decide +kernel
theorem dX0_init_62 : decode cX0_init 62 = .ok (.getfield 13, 3) := by decide +kernel
theorem dX0_init_65 : decode cX0_init 65 = .ok (.iload_n 1, 1) := by decide +kernel
theorem dX0_init_66 : decode cX0_init 66 = .ok (.new 11, 3) := by decide +kernel
theorem dX0_init_69 : decode cX0_init 69 = .ok (.dup, 1) := by decide +kernel
theorem dX0_init_70 : decode cX0_init 70 = .ok (.invokespecial 33, 3) := by decide +kernel
theorem dX0_init_73 : decode cX0_init 73 = .ok (.aastore, 1) := by decide +kernel
theorem dX0_init_74 : decode cX0_init 74 = .ok (.iinc 1 1, 3) := by decide +kernel
theorem dX0_init_77 : decode cX0_init 77 = .ok (.goto (-22), 3) := by decide +kernel
theorem dX0_init_80 : decode cX0_init 80 = .ok (.return_, 1) := by decide +kernel
theorem dX0_size_0 : decode cX0_size 0 = .ok (.aload_n 0, 1) := by decide +kernel
theorem dX0_size_1 : decode cX0_size 1 = .ok (.getfield 34, 3) := by decide +kernel
theorem dX0_size_4 : decode cX0_size 4 = .ok (.ireturn, 1) := by decide +kernel
theorem dX0_isFull_0 : decode cX0_isFull 0 = .ok (.aload_n 0, 1) := by decide +kernel
theorem dX0_isFull_1 : decode cX0_isFull 1 = .ok (.getfield 34, 3) := by decide +kernel
theorem dX0_isFull_4 : decode cX0_isFull 4 = .ok (.bipush 20, 2) := by decide +kernel
theorem dX0_isFull_6 : decode cX0_isFull 6 = .ok (.if_icmp .lt 7, 3) := by decide +kernel
theorem dX0_isFull_9 : decode cX0_isFull 9 = .ok (.iconst 1, 1) := by decide +kernel
theorem dX0_isFull_10 : decode cX0_isFull 10 = .ok (.goto 4, 3) := by decide +kernel
theorem dX0_isFull_13 : decode cX0_isFull 13 = .ok (.iconst 0, 1) := by decide +kernel
theorem dX0_isFull_14 : decode cX0_isFull 14 = .ok (.ireturn, 1) := by decide +kernel
theorem dX0_code_0 : decode cX0_code 0 = .ok (.aload_n 0, 1) := by decide +kernel
theorem dX0_code_1 : decode cX0_code 1 = .ok (.getfield 13, 3) := by decide +kernel
theorem dX0_code_4 : decode cX0_code 4 = .ok (.iload_n 1, 1) := by decide +kernel
theorem dX0_code_5 : decode cX0_code 5 = .ok (.aaload, 1) := by decide +kernel
theorem dX0_code_6 : decode cX0_code 6 = .ok (.getfield 38, 3) := by decide +kernel
theorem dX0_code_9 : decode cX0_code 9 = .ok (.areturn, 1) := by decide +kernel
theorem dX0_rule_0 : decode cX0_rule 0 = .ok (.aload_n 0, 1) := by decide +kernel
theorem dX0_rule_1 : decode cX0_rule 1 = .ok (.getfield 13, 3) := by decide +kernel
theorem dX0_rule_4 : decode cX0_rule 4 = .ok (.iload_n 1, 1) := by decide +kernel
theorem dX0_rule_5 : decode cX0_rule 5 = .ok (.aaload, 1) := by decide +kernel
theorem dX0_rule_6 : decode cX0_rule 6 = .ok (.getfield 42, 3) := by decide +kernel
theorem dX0_rule_9 : decode cX0_rule 9 = .ok (.areturn, 1) := by decide +kernel
theorem dX0_rankOf_0 : decode cX0_rankOf 0 = .ok (.aload_n 0, 1) := by decide +kernel
theorem dX0_rankOf_1 : decode cX0_rankOf 1 = .ok (.getfield 13, 3) := by decide +kernel
theorem dX0_rankOf_4 : decode cX0_rankOf 4 = .ok (.iload_n 1, 1) := by decide +kernel
theorem dX0_rankOf_5 : decode cX0_rankOf 5 = .ok (.aaload, 1) := by decide +kernel
theorem dX0_rankOf_6 : decode cX0_rankOf 6 = .ok (.getfield 46, 3) := by decide +kernel
theorem dX0_rankOf_9 : decode cX0_rankOf 9 = .ok (.ireturn, 1) := by decide +kernel
theorem dX0_canMove_0 : decode cX0_canMove 0 = .ok (.aload_n 0, 1) := by decide +kernel
theorem dX0_canMove_1 : decode cX0_canMove 1 = .ok (.getfield 13, 3) := by decide +kernel
theorem dX0_canMove_4 : decode cX0_canMove 4 = .ok (.iload_n 1, 1) := by decide +kernel
theorem dX0_canMove_5 : decode cX0_canMove 5 = .ok (.aaload, 1) := by decide +kernel
theorem dX0_canMove_6 : decode cX0_canMove 6 = .ok (.getfield 49, 3) := by decide +kernel
theorem dX0_canMove_9 : decode cX0_canMove 9 = .ok (.ireturn, 1) := by decide +kernel
theorem dX0_setRank_0 : decode cX0_setRank 0 = .ok (.aload_n 0, 1) := by decide +kernel
theorem dX0_setRank_1 : decode cX0_setRank 1 = .ok (.getfield 13, 3) := by decide +kernel
theorem dX0_setRank_4 : decode cX0_setRank 4 = .ok (.iload_n 1, 1) := by decide +kernel
theorem dX0_setRank_5 : decode cX0_setRank 5 = .ok (.aaload, 1) := by decide +kernel
theorem dX0_setRank_6 : decode cX0_setRank 6 = .ok (.iload_n 2, 1) := by decide +kernel
theorem dX0_setRank_7 : decode cX0_setRank 7 = .ok (.putfield 46, 3) := by decide +kernel
theorem dX0_setRank_10 : decode cX0_setRank 10 = .ok (.aload_n 0, 1) := by decide +kernel
theorem dX0_setRank_11 : decode cX0_setRank 11 = .ok (.getfield 13, 3) := by decide +kernel
theorem dX0_setRank_14 : decode cX0_setRank 14 = .ok (.iload_n 1, 1) := by decide +kernel
theorem dX0_setRank_15 : decode cX0_setRank 15 = .ok (.aaload, 1) := by decide +kernel
theorem dX0_setRank_16 : decode cX0_setRank 16 = .ok (.iload_n 3, 1) := by decide +kernel
theorem dX0_setRank_17 : decode cX0_setRank 17 = .ok (.putfield 49, 3) := by decide +kernel
theorem dX0_setRank_20 : decode cX0_setRank 20 = .ok (.return_, 1) := by decide +kernel
theorem dX0_add_0 : decode cX0_add 0 = .ok (.aload_n 0, 1) := by decide +kernel
theorem dX0_add_1 : decode cX0_add 1 = .ok (.getfield 34, 3) := by decide +kernel
theorem dX0_add_4 : decode cX0_add 4 = .ok (.istore_n 3, 1) := by decide +kernel
theorem dX0_add_5 : decode cX0_add 5 = .ok (.aload_n 0, 1) := by decide +kernel
theorem dX0_add_6 : decode cX0_add 6 = .ok (.getfield 13, 3) := by decide +kernel
theorem dX0_add_9 : decode cX0_add 9 = .ok (.iload_n 3, 1) := by decide +kernel
theorem dX0_add_10 : decode cX0_add 10 = .ok (.aaload, 1) := by decide +kernel
theorem dX0_add_11 : decode cX0_add 11 = .ok (.getfield 42, 3) := by decide +kernel
theorem dX0_add_14 : decode cX0_add 14 = .ok (.aload_n 1, 1) := by decide +kernel
theorem dX0_add_15 : decode cX0_add 15 = .ok (.invokevirtual 53, 3) := by decide +kernel
theorem dX0_add_18 : decode cX0_add 18 = .ok (.aload_n 0, 1) := by decide +kernel
theorem dX0_add_19 : decode cX0_add 19 = .ok (.getfield 13, 3) := by decide +kernel
theorem dX0_add_22 : decode cX0_add 22 = .ok (.iload_n 3, 1) := by decide +kernel
theorem dX0_add_23 : decode cX0_add 23 = .ok (.aaload, 1) := by decide +kernel
theorem dX0_add_24 : decode cX0_add 24 = .ok (.getfield 38, 3) := by decide +kernel
theorem dX0_add_27 : decode cX0_add 27 = .ok (.aload_n 2, 1) := by decide +kernel
theorem dX0_add_28 : decode cX0_add 28 = .ok (.invokevirtual 59, 3) := by decide +kernel
theorem dX0_add_31 : decode cX0_add 31 = .ok (.aload_n 0, 1) := by decide +kernel
theorem dX0_add_32 : decode cX0_add 32 = .ok (.getfield 17, 3) := by decide +kernel
theorem dX0_add_35 : decode cX0_add 35 = .ok (.iload_n 3, 1) := by decide +kernel
theorem dX0_add_36 : decode cX0_add 36 = .ok (.iload_n 3, 1) := by decide +kernel
theorem dX0_add_37 : decode cX0_add 37 = .ok (.iastore, 1) := by decide +kernel
theorem dX0_add_38 : decode cX0_add 38 = .ok (.aload_n 0, 1) := by decide +kernel
theorem dX0_add_39 : decode cX0_add 39 = .ok (.dup, 1) := by decide +kernel
theorem dX0_add_40 : decode cX0_add 40 = .ok (.getfield 34, 3) := by decide +kernel
theorem dX0_add_43 : decode cX0_add 43 = .ok (.iconst 1, 1) := by decide +kernel
theorem dX0_add_44 : decode cX0_add 44 = .ok (.iadd, 1) := by decide +kernel
theorem dX0_add_45 : decode cX0_add 45 = .ok (.putfield 34, 3) := by decide +kernel
theorem dX0_add_48 : decode cX0_add 48 = .ok (.iload_n 3, 1) := by decide +kernel
theorem dX0_add_49 : decode cX0_add 49 = .ok (.ireturn, 1) := by decide +kernel
theorem dX0_inOrder_0 : decode cX0_inOrder 0 = .ok (.aload_n 0, 1) := by decide +kernel
theorem dX0_inOrder_1 : decode cX0_inOrder 1 = .ok (.getfield 17, 3) := by decide +kernel
theorem dX0_inOrder_4 : decode cX0_inOrder 4 = .ok (.iload_n 1, 1) := by decide +kernel
theorem dX0_inOrder_5 : decode cX0_inOrder 5 = .ok (.iaload, 1) := by decide +kernel
theorem dX0_inOrder_6 : decode cX0_inOrder 6 = .ok (.ireturn, 1) := by decide +kernel
theorem dX0_dispensations_0 : decode cX0_dispensations 0 = .ok (.aload_n 0, 1) := by decide +kernel
theorem dX0_dispensations_1 : decode cX0_dispensations 1 = .ok (.getfield 82, 3) := by decide +kernel
theorem dX0_dispensations_4 : decode cX0_dispensations 4 = .ok (.ireturn, 1) := by decide +kernel
theorem dX0_grant_0 : decode cX0_grant 0 = .ok (.aload_n 0, 1) := by decide +kernel
theorem dX0_grant_1 : decode cX0_grant 1 = .ok (.getfield 82, 3) := by decide +kernel
theorem dX0_grant_4 : decode cX0_grant 4 = .ok (.bipush 30, 2) := by decide +kernel
theorem dX0_grant_6 : decode cX0_grant 6 = .ok (.if_icmp .ge 12, 3) := by decide +kernel
theorem dX0_grant_9 : decode cX0_grant 9 = .ok (.aload_n 0, 1) := by decide +kernel
theorem dX0_grant_10 : decode cX0_grant 10 = .ok (.iload_n 1, 1) := by decide +kernel
theorem dX0_grant_11 : decode cX0_grant 11 = .ok (.iload_n 2, 1) := by decide +kernel
theorem dX0_grant_12 : decode cX0_grant 12 = .ok (.invokevirtual 85, 3) := by decide +kernel
theorem dX0_grant_15 : decode cX0_grant 15 = .ok (.ifCond .eq 5, 3) := by decide +kernel
theorem dX0_grant_18 : decode cX0_grant 18 = .ok (.iconst 0, 1) := by decide +kernel
theorem dX0_grant_19 : decode cX0_grant 19 = .ok (.ireturn, 1) := by decide +kernel
theorem dX0_grant_20 : decode cX0_grant 20 = .ok (.aload_n 0, 1) := by decide +kernel
theorem dX0_grant_21 : decode cX0_grant 21 = .ok (.getfield 24, 3) := by decide +kernel
theorem dX0_grant_24 : decode cX0_grant 24 = .ok (.aload_n 0, 1) := by decide +kernel
theorem dX0_grant_25 : decode cX0_grant 25 = .ok (.getfield 82, 3) := by decide +kernel
theorem dX0_grant_28 : decode cX0_grant 28 = .ok (.iload_n 1, 1) := by decide +kernel
theorem dX0_grant_29 : decode cX0_grant 29 = .ok (.iastore, 1) := by decide +kernel
theorem dX0_grant_30 : decode cX0_grant 30 = .ok (.aload_n 0, 1) := by decide +kernel
theorem dX0_grant_31 : decode cX0_grant 31 = .ok (.getfield 27, 3) := by decide +kernel
theorem dX0_grant_34 : decode cX0_grant 34 = .ok (.aload_n 0, 1) := by decide +kernel
theorem dX0_grant_35 : decode cX0_grant 35 = .ok (.getfield 82, 3) := by decide +kernel
theorem dX0_grant_38 : decode cX0_grant 38 = .ok (.iload_n 2, 1) := by decide +kernel
theorem dX0_grant_39 : decode cX0_grant 39 = .ok (.iastore, 1) := by decide +kernel
theorem dX0_grant_40 : decode cX0_grant 40 = .ok (.aload_n 0, 1) := by decide +kernel
theorem dX0_grant_41 : decode cX0_grant 41 = .ok (.getfield 30, 3) := by decide +kernel
theorem dX0_grant_44 : decode cX0_grant 44 = .ok (.aload_n 0, 1) := by decide +kernel
theorem dX0_grant_45 : decode cX0_grant 45 = .ok (.getfield 82, 3) := by decide +kernel
theorem dX0_grant_48 : decode cX0_grant 48 = .ok (.iload_n 3, 1) := by decide +kernel
theorem dX0_grant_49 : decode cX0_grant 49 = .ok (.iastore, 1) := by decide +kernel
theorem dX0_grant_50 : decode cX0_grant 50 = .ok (.aload_n 0, 1) := by decide +kernel
theorem dX0_grant_51 : decode cX0_grant 51 = .ok (.dup, 1) := by decide +kernel
theorem dX0_grant_52 : decode cX0_grant 52 = .ok (.getfield 82, 3) := by decide +kernel
theorem dX0_grant_55 : decode cX0_grant 55 = .ok (.iconst 1, 1) := by decide +kernel
theorem dX0_grant_56 : decode cX0_grant 56 = .ok (.iadd, 1) := by decide +kernel
theorem dX0_grant_57 : decode cX0_grant 57 = .ok (.putfield 82, 3) := by decide +kernel
theorem dX0_grant_60 : decode cX0_grant 60 = .ok (.iconst 1, 1) := by decide +kernel
theorem dX0_grant_61 : decode cX0_grant 61 = .ok (.ireturn, 1) := by decide +kernel
theorem dX0_hasOneNear_0 : decode cX0_hasOneNear 0 = .ok (.iconst 0, 1) := by decide +kernel
theorem dX0_hasOneNear_1 : decode cX0_hasOneNear 1 = .ok (.istore_n 3, 1) := by decide +kernel
theorem dX0_hasOneNear_2 : decode cX0_hasOneNear 2 = .ok (.iload_n 3, 1) := by decide +kernel
theorem dX0_hasOneNear_3 : decode cX0_hasOneNear 3 = .ok (.aload_n 0, 1) := by decide +kernel
theorem dX0_hasOneNear_4 : decode cX0_hasOneNear 4 = .ok (.getfield 82, 3) := by decide +kernel
theorem dX0_hasOneNear_7 : decode cX0_hasOneNear 7 = .ok (.if_icmp .ge 37, 3) := by decide +kernel
theorem dX0_hasOneNear_10 : decode cX0_hasOneNear 10 = .ok (.aload_n 0, 1) := by decide +kernel
theorem dX0_hasOneNear_11 : decode cX0_hasOneNear 11 = .ok (.getfield 24, 3) := by decide +kernel
theorem dX0_hasOneNear_14 : decode cX0_hasOneNear 14 = .ok (.iload_n 3, 1) := by decide +kernel
theorem dX0_hasOneNear_15 : decode cX0_hasOneNear 15 = .ok (.iaload, 1) := by decide +kernel
theorem dX0_hasOneNear_16 : decode cX0_hasOneNear 16 = .ok (.iload_n 1, 1) := by decide +kernel
theorem dX0_hasOneNear_17 : decode cX0_hasOneNear 17 = .ok (.if_icmp .ne 21, 3) := by decide +kernel
theorem dX0_hasOneNear_20 : decode cX0_hasOneNear 20 = .ok (.aload_n 0, 1) := by decide +kernel
theorem dX0_hasOneNear_21 : decode cX0_hasOneNear 21 = .ok (.getfield 27, 3) := by decide +kernel
theorem dX0_hasOneNear_24 : decode cX0_hasOneNear 24 = .ok (.iload_n 3, 1) := by decide +kernel
theorem dX0_hasOneNear_25 : decode cX0_hasOneNear 25 = .ok (.iaload, 1) := by decide +kernel
theorem dX0_hasOneNear_26 : decode cX0_hasOneNear 26 = .ok (.iload_n 2, 1) := by decide +kernel
theorem dX0_hasOneNear_27 : decode cX0_hasOneNear 27 = .ok (.isub, 1) := by decide +kernel
theorem dX0_hasOneNear_28 : decode cX0_hasOneNear 28 = .ok (.invokestatic 88, 3) := by decide +kernel
theorem dX0_hasOneNear_31 : decode cX0_hasOneNear 31 = .ok (.bipush 10, 2) := by decide +kernel
theorem dX0_hasOneNear_33 : decode cX0_hasOneNear 33 = .ok (.if_icmp .ge 5, 3) := by decide +kernel
theorem dX0_hasOneNear_36 : decode cX0_hasOneNear 36 = .ok (.iconst 1, 1) := by decide +kernel
theorem dX0_hasOneNear_37 : decode cX0_hasOneNear 37 = .ok (.ireturn, 1) := by decide +kernel
theorem dX0_hasOneNear_38 : decode cX0_hasOneNear 38 = .ok (.iinc 3 1, 3) := by decide +kernel
theorem dX0_hasOneNear_41 : decode cX0_hasOneNear 41 = .ok (.goto (-39), 3) := by decide +kernel
theorem dX0_hasOneNear_44 : decode cX0_hasOneNear 44 = .ok (.iconst 0, 1) := by decide +kernel
theorem dX0_hasOneNear_45 : decode cX0_hasOneNear 45 = .ok (.ireturn, 1) := by decide +kernel
theorem dX0_dispensationFor_0 : decode cX0_dispensationFor 0 = .ok (.iconst 0, 1) := by decide +kernel
theorem dX0_dispensationFor_1 : decode cX0_dispensationFor 1 = .ok (.istore_n 3, 1) := by decide +kernel
theorem dX0_dispensationFor_2 : decode cX0_dispensationFor 2 = .ok (.iload_n 3, 1) := by decide +kernel
theorem dX0_dispensationFor_3 : decode cX0_dispensationFor 3 = .ok (.aload_n 0, 1) := by decide +kernel
theorem dX0_dispensationFor_4 : decode cX0_dispensationFor 4 = .ok (.getfield 82, 3) := by decide +kernel
theorem dX0_dispensationFor_7 : decode cX0_dispensationFor 7 = .ok (.if_icmp .ge 31, 3) := by decide +kernel
theorem dX0_dispensationFor_10 : decode cX0_dispensationFor 10 = .ok (.aload_n 0, 1) := by decide +kernel
theorem dX0_dispensationFor_11 : decode cX0_dispensationFor 11 = .ok (.getfield 24, 3) := by decide +kernel
theorem dX0_dispensationFor_14 : decode cX0_dispensationFor 14 = .ok (.iload_n 3, 1) := by decide +kernel
theorem dX0_dispensationFor_15 : decode cX0_dispensationFor 15 = .ok (.iaload, 1) := by decide +kernel
theorem dX0_dispensationFor_16 : decode cX0_dispensationFor 16 = .ok (.iload_n 1, 1) := by decide +kernel
theorem dX0_dispensationFor_17 : decode cX0_dispensationFor 17 = .ok (.if_icmp .ne 15, 3) := by decide +kernel
theorem dX0_dispensationFor_20 : decode cX0_dispensationFor 20 = .ok (.aload_n 0, 1) := by decide +kernel
theorem dX0_dispensationFor_21 : decode cX0_dispensationFor 21 = .ok (.getfield 27, 3) := by decide +kernel
theorem dX0_dispensationFor_24 : decode cX0_dispensationFor 24 = .ok (.iload_n 3, 1) := by decide +kernel
theorem dX0_dispensationFor_25 : decode cX0_dispensationFor 25 = .ok (.iaload, 1) := by decide +kernel
theorem dX0_dispensationFor_26 : decode cX0_dispensationFor 26 = .ok (.iload_n 2, 1) := by decide +kernel
theorem dX0_dispensationFor_27 : decode cX0_dispensationFor 27 = .ok (.if_icmp .ne 5, 3) := by decide +kernel
theorem dX0_dispensationFor_30 : decode cX0_dispensationFor 30 = .ok (.iload_n 3, 1) := by decide +kernel
theorem dX0_dispensationFor_31 : decode cX0_dispensationFor 31 = .ok (.ireturn, 1) := by decide +kernel
theorem dX0_dispensationFor_32 : decode cX0_dispensationFor 32 = .ok (.iinc 3 1, 3) := by decide +kernel
theorem dX0_dispensationFor_35 : decode cX0_dispensationFor 35 = .ok (.goto (-33), 3) := by decide +kernel
theorem dX0_dispensationFor_38 : decode cX0_dispensationFor 38 = .ok (.iconst (-1), 1) := by decide +kernel
theorem dX0_dispensationFor_39 : decode cX0_dispensationFor 39 = .ok (.ireturn, 1) := by decide +kernel
theorem dX0_revoke_0 : decode cX0_revoke 0 = .ok (.aload_n 0, 1) := by decide +kernel
theorem dX0_revoke_1 : decode cX0_revoke 1 = .ok (.getfield 30, 3) := by decide +kernel
theorem dX0_revoke_4 : decode cX0_revoke 4 = .ok (.iload_n 1, 1) := by decide +kernel
theorem dX0_revoke_5 : decode cX0_revoke 5 = .ok (.iaload, 1) := by decide +kernel
theorem dX0_revoke_6 : decode cX0_revoke 6 = .ok (.istore_n 2, 1) := by decide +kernel
theorem dX0_revoke_7 : decode cX0_revoke 7 = .ok (.aload_n 0, 1) := by decide +kernel
theorem dX0_revoke_8 : decode cX0_revoke 8 = .ok (.dup, 1) := by decide +kernel
theorem dX0_revoke_9 : decode cX0_revoke 9 = .ok (.getfield 82, 3) := by decide +kernel
theorem dX0_revoke_12 : decode cX0_revoke 12 = .ok (.iconst 1, 1) := by decide +kernel
theorem dX0_revoke_13 : decode cX0_revoke 13 = .ok (.isub, 1) := by decide +kernel
theorem dX0_revoke_14 : decode cX0_revoke 14 = .ok (.putfield 82, 3) := by decide +kernel
theorem dX0_revoke_17 : decode cX0_revoke 17 = .ok (.aload_n 0, 1) := by decide +kernel
theorem dX0_revoke_18 : decode cX0_revoke 18 = .ok (.getfield 24, 3) := by decide +kernel
theorem dX0_revoke_21 : decode cX0_revoke 21 = .ok (.iload_n 1, 1) := by decide +kernel
theorem dX0_revoke_22 : decode cX0_revoke 22 = .ok (.aload_n 0, 1) := by decide +kernel
theorem dX0_revoke_23 : decode cX0_revoke 23 = .ok (.getfield 24, 3) := by decide +kernel
theorem dX0_revoke_26 : decode cX0_revoke 26 = .ok (.aload_n 0, 1) := by decide +kernel
theorem dX0_revoke_27 : decode cX0_revoke 27 = .ok (.getfield 82, 3) := by decide +kernel
theorem dX0_revoke_30 : decode cX0_revoke 30 = .ok (.iaload, 1) := by decide +kernel
theorem dX0_revoke_31 : decode cX0_revoke 31 = .ok (.iastore, 1) := by decide +kernel
theorem dX0_revoke_32 : decode cX0_revoke 32 = .ok (.aload_n 0, 1) := by decide +kernel
theorem dX0_revoke_33 : decode cX0_revoke 33 = .ok (.getfield 27, 3) := by decide +kernel
theorem dX0_revoke_36 : decode cX0_revoke 36 = .ok (.iload_n 1, 1) := by decide +kernel
theorem dX0_revoke_37 : decode cX0_revoke 37 = .ok (.aload_n 0, 1) := by decide +kernel
theorem dX0_revoke_38 : decode cX0_revoke 38 = .ok (.getfield 27, 3) := by decide +kernel
theorem dX0_revoke_41 : decode cX0_revoke 41 = .ok (.aload_n 0, 1) := by decide +kernel
theorem dX0_revoke_42 : decode cX0_revoke 42 = .ok (.getfield 82, 3) := by decide +kernel
theorem dX0_revoke_45 : decode cX0_revoke 45 = .ok (.iaload, 1) := by decide +kernel
theorem dX0_revoke_46 : decode cX0_revoke 46 = .ok (.iastore, 1) := by decide +kernel
theorem dX0_revoke_47 : decode cX0_revoke 47 = .ok (.aload_n 0, 1) := by decide +kernel
theorem dX0_revoke_48 : decode cX0_revoke 48 = .ok (.getfield 30, 3) := by decide +kernel
theorem dX0_revoke_51 : decode cX0_revoke 51 = .ok (.iload_n 1, 1) := by decide +kernel
theorem dX0_revoke_52 : decode cX0_revoke 52 = .ok (.aload_n 0, 1) := by decide +kernel
theorem dX0_revoke_53 : decode cX0_revoke 53 = .ok (.getfield 30, 3) := by decide +kernel
theorem dX0_revoke_56 : decode cX0_revoke 56 = .ok (.aload_n 0, 1) := by decide +kernel
theorem dX0_revoke_57 : decode cX0_revoke 57 = .ok (.getfield 82, 3) := by decide +kernel
theorem dX0_revoke_60 : decode cX0_revoke 60 = .ok (.iaload, 1) := by decide +kernel
theorem dX0_revoke_61 : decode cX0_revoke 61 = .ok (.iastore, 1) := by decide +kernel
theorem dX0_revoke_62 : decode cX0_revoke 62 = .ok (.iload_n 2, 1) := by decide +kernel
theorem dX0_revoke_63 : decode cX0_revoke 63 = .ok (.ireturn, 1) := by decide +kernel
theorem dX0_bend_0 : decode cX0_bend 0 = .ok (.aload_n 0, 1) := by decide +kernel
theorem dX0_bend_1 : decode cX0_bend 1 = .ok (.iload_n 1, 1) := by decide +kernel
theorem dX0_bend_2 : decode cX0_bend 2 = .ok (.iload_n 2, 1) := by decide +kernel
theorem dX0_bend_3 : decode cX0_bend 3 = .ok (.invokevirtual 94, 3) := by decide +kernel
theorem dX0_bend_6 : decode cX0_bend 6 = .ok (.istore 4, 2) := by decide +kernel
theorem dX0_bend_8 : decode cX0_bend 8 = .ok (.iload_n 3, 1) := by decide +kernel
theorem dX0_bend_9 : decode cX0_bend 9 = .ok (.iconst (-1), 1) := by decide +kernel
theorem dX0_bend_10 : decode cX0_bend 10 = .ok (.if_icmp .eq 9, 3) := by decide +kernel
theorem dX0_bend_13 : decode cX0_bend 13 = .ok (.iload 4, 2) := by decide +kernel
theorem dX0_bend_15 : decode cX0_bend 15 = .ok (.iconst (-1), 1) := by decide +kernel
theorem dX0_bend_16 : decode cX0_bend 16 = .ok (.if_icmp .ne 5, 3) := by decide +kernel
theorem dX0_bend_19 : decode cX0_bend 19 = .ok (.iload_n 3, 1) := by decide +kernel
theorem dX0_bend_20 : decode cX0_bend 20 = .ok (.ireturn, 1) := by decide +kernel
theorem dX0_bend_21 : decode cX0_bend 21 = .ok (.aload_n 0, 1) := by decide +kernel
theorem dX0_bend_22 : decode cX0_bend 22 = .ok (.getfield 30, 3) := by decide +kernel
theorem dX0_bend_25 : decode cX0_bend 25 = .ok (.iload 4, 2) := by decide +kernel
theorem dX0_bend_27 : decode cX0_bend 27 = .ok (.iaload, 1) := by decide +kernel
theorem dX0_bend_28 : decode cX0_bend 28 = .ok (.bipush 99, 2) := by decide +kernel
theorem dX0_bend_30 : decode cX0_bend 30 = .ok (.if_icmp .ne 5, 3) := by decide +kernel
theorem dX0_bend_33 : decode cX0_bend 33 = .ok (.iconst (-1), 1) := by decide +kernel
theorem dX0_bend_34 : decode cX0_bend 34 = .ok (.ireturn, 1) := by decide +kernel
theorem dX0_bend_35 : decode cX0_bend 35 = .ok (.iload_n 3, 1) := by decide +kernel
theorem dX0_bend_36 : decode cX0_bend 36 = .ok (.aload_n 0, 1) := by decide +kernel
theorem dX0_bend_37 : decode cX0_bend 37 = .ok (.getfield 30, 3) := by decide +kernel
theorem dX0_bend_40 : decode cX0_bend 40 = .ok (.iload 4, 2) := by decide +kernel
theorem dX0_bend_42 : decode cX0_bend 42 = .ok (.iaload, 1) := by decide +kernel
theorem dX0_bend_43 : decode cX0_bend 43 = .ok (.iadd, 1) := by decide +kernel
theorem dX0_bend_44 : decode cX0_bend 44 = .ok (.istore 5, 2) := by decide +kernel
theorem dX0_bend_46 : decode cX0_bend 46 = .ok (.iload 5, 2) := by decide +kernel
theorem dX0_bend_48 : decode cX0_bend 48 = .ok (.ifCond .lt 17, 3) := by decide +kernel
theorem dX0_bend_51 : decode cX0_bend 51 = .ok (.iload 5, 2) := by decide +kernel
theorem dX0_bend_53 : decode cX0_bend 53 = .ok (.iload_n 2, 1) := by decide +kernel
theorem dX0_bend_54 : decode cX0_bend 54 = .ok (.invokestatic 98, 3) := by decide +kernel
theorem dX0_bend_57 : decode cX0_bend 57 = .ok (.if_icmp .ge 8, 3) := by decide +kernel
theorem dX0_bend_60 : decode cX0_bend 60 = .ok (.iload 5, 2) := by decide +kernel
theorem dX0_bend_62 : decode cX0_bend 62 = .ok (.goto 4, 3) := by decide +kernel
theorem dX0_bend_65 : decode cX0_bend 65 = .ok (.iconst (-1), 1) := by decide +kernel
theorem dX0_bend_66 : decode cX0_bend 66 = .ok (.ireturn, 1) := by decide +kernel
theorem dX1_init_0 : decode cX1_init 0 = .ok (.aload_n 0, 1) := by decide +kernel
theorem dX1_init_1 : decode cX1_init 1 = .ok (.invokespecial 3, 3) := by decide +kernel
theorem dX1_init_4 : decode cX1_init 4 = .ok (.aload_n 0, 1) := by decide +kernel
theorem dX1_init_5 : decode cX1_init 5 = .ok (.bipush 6, 2) := by decide +kernel
theorem dX1_init_7 : decode cX1_init 7 = .ok (.newarray .int, 2) := by decide +kernel
theorem dX1_init_9 : decode cX1_init 9 = .ok (.putfield 11, 3) := by decide +kernel
theorem dX1_init_12 : decode cX1_init 12 = .ok (.aload_n 0, 1) := by decide +kernel
theorem dX1_init_13 : decode cX1_init 13 = .ok (.bipush 24, 2) := by decide +kernel
theorem dX1_init_15 : decode cX1_init 15 = .ok (.newarray .int, 2) := by decide +kernel
theorem dX1_init_17 : decode cX1_init 17 = .ok (.putfield 15, 3) := by decide +kernel
theorem dX1_init_20 : decode cX1_init 20 = .ok (.aload_n 0, 1) := by decide +kernel
theorem dX1_init_21 : decode cX1_init 21 = .ok (.bipush 24, 2) := by decide +kernel
theorem dX1_init_23 : decode cX1_init 23 = .ok (.newarray .int, 2) := by decide +kernel
theorem dX1_init_25 : decode cX1_init 25 = .ok (.putfield 18, 3) := by decide +kernel
theorem dX1_init_28 : decode cX1_init 28 = .ok (.aload_n 0, 1) := by decide +kernel
theorem dX1_init_29 : decode cX1_init 29 = .ok (.bipush 24, 2) := by decide +kernel
theorem dX1_init_31 : decode cX1_init 31 = .ok (.newarray .int, 2) := by decide +kernel
theorem dX1_init_33 : decode cX1_init 33 = .ok (.putfield 21, 3) := by decide +kernel
theorem dX1_init_36 : decode cX1_init 36 = .ok (.aload_n 0, 1) := by decide +kernel
theorem dX1_init_37 : decode cX1_init 37 = .ok (.bipush 24, 2) := by decide +kernel
theorem dX1_init_39 : decode cX1_init 39 = .ok (.newarray .int, 2) := by decide +kernel
theorem dX1_init_41 : decode cX1_init 41 = .ok (.putfield 24, 3) := by decide +kernel
theorem dX1_init_44 : decode cX1_init 44 = .ok (.aload_n 0, 1) := by decide +kernel
theorem dX1_init_45 : decode cX1_init 45 = .ok (.bipush 20, 2) := by decide +kernel
theorem dX1_init_47 : decode cX1_init 47 = .ok (.bipush 36, 2) := by decide +kernel
theorem dX1_init_49 : decode cX1_init 49 = .ok (.multianewarray 29 2, 4) := by decide +kernel
theorem dX1_init_53 : decode cX1_init 53 = .ok (.putfield 31, 3) := by decide +kernel
theorem dX1_init_56 : decode cX1_init 56 = .ok (.return_, 1) := by decide +kernel
theorem dX1_hang_0 : decode cX1_hang 0 = .ok (.aload_n 0, 1) := by decide +kernel
theorem dX1_hang_1 : decode cX1_hang 1 = .ok (.getfield 11, 3) := by decide +kernel
theorem dX1_hang_4 : decode cX1_hang 4 = .ok (.iload_n 1, 1) := by decide +kernel
theorem dX1_hang_5 : decode cX1_hang 5 = .ok (.iaload, 1) := by decide +kernel
theorem dX1_hang_6 : decode cX1_hang 6 = .ok (.istore_n 3, 1) := by decide +kernel
theorem dX1_hang_7 : decode cX1_hang 7 = .ok (.aload_n 0, 1) := by decide +kernel
theorem dX1_hang_8 : decode cX1_hang 8 = .ok (.getfield 11, 3) := by decide +kernel
theorem dX1_hang_11 : decode cX1_hang 11 = .ok (.iload_n 1, 1) := by decide +kernel
theorem dX1_hang_12 : decode cX1_hang 12 = .ok (.iload_n 2, 1) := by decide +kernel
theorem dX1_hang_13 : decode cX1_hang 13 = .ok (.iastore, 1) := by decide +kernel
theorem dX1_hang_14 : decode cX1_hang 14 = .ok (.iload_n 3, 1) := by decide +kernel
theorem dX1_hang_15 : decode cX1_hang 15 = .ok (.ireturn, 1) := by decide +kernel
theorem dX1_hire_0 : decode cX1_hire 0 = .ok (.aload_n 0, 1) := by decide +kernel
theorem dX1_hire_1 : decode cX1_hire 1 = .ok (.getfield 34, 3) := by decide +kernel
theorem dX1_hire_4 : decode cX1_hire 4 = .ok (.bipush 24, 2) := by decide +kernel
theorem dX1_hire_6 : decode cX1_hire 6 = .ok (.if_icmp .lt 5, 3) := by decide +kernel
theorem dX1_hire_9 : decode cX1_hire 9 = .ok (.iconst (-1), 1) := by decide +kernel
theorem dX1_hire_10 : decode cX1_hire 10 = .ok (.ireturn, 1) := by decide +kernel
theorem dX1_hire_11 : decode cX1_hire 11 = .ok (.aload_n 0, 1) := by decide +kernel
theorem dX1_hire_12 : decode cX1_hire 12 = .ok (.getfield 15, 3) := by decide +kernel
theorem dX1_hire_15 : decode cX1_hire 15 = .ok (.aload_n 0, 1) := by decide +kernel
theorem dX1_hire_16 : decode cX1_hire 16 = .ok (.getfield 34, 3) := by decide +kernel
theorem dX1_hire_19 : decode cX1_hire 19 = .ok (.iload_n 1, 1) := by decide +kernel
theorem dX1_hire_20 : decode cX1_hire 20 = .ok (.iastore, 1) := by decide +kernel
theorem dX1_hire_21 : decode cX1_hire 21 = .ok (.aload_n 0, 1) := by decide +kernel
theorem dX1_hire_22 : decode cX1_hire 22 = .ok (.getfield 18, 3) := by decide +kernel
theorem dX1_hire_25 : decode cX1_hire 25 = .ok (.aload_n 0, 1) := by decide +kernel
theorem dX1_hire_26 : decode cX1_hire 26 = .ok (.getfield 34, 3) := by decide +kernel
theorem dX1_hire_29 : decode cX1_hire 29 = .ok (.iload_n 2, 1) := by decide +kernel
theorem dX1_hire_30 : decode cX1_hire 30 = .ok (.iastore, 1) := by decide +kernel
theorem dX1_hire_31 : decode cX1_hire 31 = .ok (.aload_n 0, 1) := by decide +kernel
theorem dX1_hire_32 : decode cX1_hire 32 = .ok (.dup, 1) := by decide +kernel
theorem dX1_hire_33 : decode cX1_hire 33 = .ok (.getfield 34, 3) := by decide +kernel
theorem dX1_hire_36 : decode cX1_hire 36 = .ok (.iconst 1, 1) := by decide +kernel
theorem dX1_hire_37 : decode cX1_hire 37 = .ok (.iadd, 1) := by decide +kernel
theorem dX1_hire_38 : decode cX1_hire 38 = .ok (.putfield 34, 3) := by decide +kernel
theorem dX1_hire_41 : decode cX1_hire 41 = .ok (.aload_n 0, 1) := by decide +kernel
theorem dX1_hire_42 : decode cX1_hire 42 = .ok (.getfield 34, 3) := by decide +kernel
theorem dX1_hire_45 : decode cX1_hire 45 = .ok (.iconst 1, 1) := by decide +kernel
theorem dX1_hire_46 : decode cX1_hire 46 = .ok (.isub, 1) := by decide +kernel
theorem dX1_hire_47 : decode cX1_hire 47 = .ok (.ireturn, 1) := by decide +kernel
theorem dX1_size_0 : decode cX1_size 0 = .ok (.aload_n 0, 1) := by decide +kernel
theorem dX1_size_1 : decode cX1_size 1 = .ok (.getfield 34, 3) := by decide +kernel
theorem dX1_size_4 : decode cX1_size 4 = .ok (.ireturn, 1) := by decide +kernel
theorem dX1_ringYear_0 : decode cX1_ringYear 0 = .ok (.aload_n 0, 1) := by decide +kernel
theorem dX1_ringYear_1 : decode cX1_ringYear 1 = .ok (.invokevirtual 38, 3) := by decide +kernel
theorem dX1_ringYear_4 : decode cX1_ringYear 4 = .ok (.iconst 0, 1) := by decide +kernel
theorem dX1_ringYear_5 : decode cX1_ringYear 5 = .ok (.istore 4, 2) := by decide +kernel
theorem dX1_ringYear_7 : decode cX1_ringYear 7 = .ok (.iload 4, 2) := by decide +kernel
theorem dX1_ringYear_9 : decode cX1_ringYear 9 = .ok (.sipush 365, 3) := by decide +kernel
theorem dX1_ringYear_12 : decode cX1_ringYear 12 = .ok (.if_icmp .gt 60, 3) := by decide +kernel
theorem dX1_ringYear_15 : decode cX1_ringYear 15 = .ok (.aload_n 2, 1) := by decide +kernel
theorem dX1_ringYear_16 : decode cX1_ringYear 16 = .ok (.iload 4, 2) := by decide +kernel
theorem dX1_ringYear_18 : decode cX1_ringYear 18 = .ok (.invokevirtual 41, 3) := by decide +kernel
theorem dX1_ringYear_21 : decode cX1_ringYear 21 = .ok (.istore 5, 2) := by decide +kernel
theorem dX1_ringYear_23 : decode cX1_ringYear 23 = .ok (.iload 5, 2) := by decide +kernel
theorem dX1_ringYear_25 : decode cX1_ringYear 25 = .ok (.iconst (-1), 1) := by decide +kernel
theorem dX1_ringYear_26 : decode cX1_ringYear 26 = .ok (.if_icmp .eq 40, 3) := by decide +kernel
theorem dX1_ringYear_29 : decode cX1_ringYear 29 = .ok (.aload_n 2, 1) := by decide +kernel
theorem dX1_ringYear_30 : decode cX1_ringYear 30 = .ok (.aload_n 3, 1) := by decide +kernel
theorem dX1_ringYear_31 : decode cX1_ringYear 31 = .ok (.iload 5, 2) := by decide +kernel
theorem dX1_ringYear_33 : decode cX1_ringYear 33 = .ok (.invokevirtual 47, 3) := by decide +kernel
theorem dX1_ringYear_36 : decode cX1_ringYear 36 = .ok (.ifCond .eq 10, 3) := by decide +kernel
theorem dX1_ringYear_39 : decode cX1_ringYear 39 = .ok (.iload 4, 2) := by decide +kernel
theorem dX1_ringYear_41 : decode cX1_ringYear 41 = .ok (.iconst 1, 1) := by decide +kernel
theorem dX1_ringYear_42 : decode cX1_ringYear 42 = .ok (.iadd, 1) := by decide +kernel
theorem dX1_ringYear_43 : decode cX1_ringYear 43 = .ok (.goto 5, 3) := by decide +kernel
theorem dX1_ringYear_46 : decode cX1_ringYear 46 = .ok (.iload 4, 2) := by decide +kernel
theorem dX1_ringYear_48 : decode cX1_ringYear 48 = .ok (.istore 6, 2) := by decide +kernel
theorem dX1_ringYear_50 : decode cX1_ringYear 50 = .ok (.aload_n 0, 1) := by decide +kernel
theorem dX1_ringYear_51 : decode cX1_ringYear 51 = .ok (.iload 5, 2) := by decide +kernel
theorem dX1_ringYear_53 : decode cX1_ringYear 53 = .ok (.aload_n 1, 1) := by decide +kernel
theorem dX1_ringYear_54 : decode cX1_ringYear 54 = .ok (.iload 5, 2) := by decide +kernel
theorem dX1_ringYear_56 : decode cX1_ringYear 56 = .ok (.invokevirtual 51, 3) := by decide +kernel
theorem dX1_ringYear_59 : decode cX1_ringYear 59 = .ok (.iload 4, 2) := by decide +kernel
theorem dX1_ringYear_61 : decode cX1_ringYear 61 = .ok (.iload 6, 2) := by decide +kernel
theorem dX1_ringYear_63 : decode cX1_ringYear 63 = .ok (.invokevirtual 54, 3) := by decide +kernel
theorem dX1_ringYear_66 : decode cX1_ringYear 66 = .ok (.iinc 4 1, 3) := by decide +kernel
theorem dX1_ringYear_69 : decode cX1_ringYear 69 = .ok (.goto (-62), 3) := by decide +kernel
theorem dX1_ringYear_72 : decode cX1_ringYear 72 = .ok (.return_, 1) := by decide +kernel
theorem dX1_forgetYear_0 : decode cX1_forgetYear 0 = .ok (.aload_n 0, 1) := by decide +kernel
theorem dX1_forgetYear_1 : decode cX1_forgetYear 1 = .ok (.iconst 0, 1) := by decide +kernel
theorem dX1_forgetYear_2 : decode cX1_forgetYear 2 = .ok (.putfield 58, 3) := by decide +kernel
theorem dX1_forgetYear_5 : decode cX1_forgetYear 5 = .ok (.iconst 0, 1) := by decide +kernel
theorem dX1_forgetYear_6 : decode cX1_forgetYear 6 = .ok (.istore_n 1, 1) := by decide +kernel
theorem dX1_forgetYear_7 : decode cX1_forgetYear 7 = .ok (.iload_n 1, 1) := by decide +kernel
theorem dX1_forgetYear_8 : decode cX1_forgetYear 8 = .ok (.bipush 24, 2) := by decide +kernel
theorem dX1_forgetYear_10 : decode cX1_forgetYear 10 = .ok (.if_icmp .ge 23, 3) := by decide +kernel
theorem dX1_forgetYear_13 : decode cX1_forgetYear 13 = .ok (.aload_n 0, 1) := by decide +kernel
theorem dX1_forgetYear_14 : decode cX1_forgetYear 14 = .ok (.getfield 21, 3) := by decide +kernel
theorem dX1_forgetYear_17 : decode cX1_forgetYear 17 = .ok (.iload_n 1, 1) := by decide +kernel
theorem dX1_forgetYear_18 : decode cX1_forgetYear 18 = .ok (.iconst (-1), 1) := by decide +kernel
theorem dX1_forgetYear_19 : decode cX1_forgetYear 19 = .ok (.iastore, 1) := by decide +kernel
theorem dX1_forgetYear_20 : decode cX1_forgetYear 20 = .ok (.aload_n 0, 1) := by decide +kernel
theorem dX1_forgetYear_21 : decode cX1_forgetYear 21 = .ok (.getfield 24, 3) := by decide +kernel
theorem dX1_forgetYear_24 : decode cX1_forgetYear 24 = .ok (.iload_n 1, 1) := by decide +kernel
theorem dX1_forgetYear_25 : decode cX1_forgetYear 25 = .ok (.iconst 0, 1) := by decide +kernel
theorem dX1_forgetYear_26 : decode cX1_forgetYear 26 = .ok (.iastore, 1) := by decide +kernel
theorem dX1_forgetYear_27 : decode cX1_forgetYear 27 = .ok (.iinc 1 1, 3) := by decide +kernel
theorem dX1_forgetYear_30 : decode cX1_forgetYear 30 = .ok (.goto (-23), 3) := by decide +kernel
theorem dX1_forgetYear_33 : decode cX1_forgetYear 33 = .ok (.iconst 0, 1) := by decide +kernel
theorem dX1_forgetYear_34 : decode cX1_forgetYear 34 = .ok (.istore_n 1, 1) := by decide +kernel
theorem dX1_forgetYear_35 : decode cX1_forgetYear 35 = .ok (.iload_n 1, 1) := by decide +kernel
theorem dX1_forgetYear_36 : decode cX1_forgetYear 36 = .ok (.bipush 20, 2) := by decide +kernel
theorem dX1_forgetYear_38 : decode cX1_forgetYear 38 = .ok (.if_icmp .ge 32, 3) := by decide +kernel
theorem dX1_forgetYear_41 : decode cX1_forgetYear 41 = .ok (.iconst 0, 1) := by decide +kernel
theorem dX1_forgetYear_42 : decode cX1_forgetYear 42 = .ok (.istore_n 2, 1) := by decide +kernel
theorem dX1_forgetYear_43 : decode cX1_forgetYear 43 = .ok (.iload_n 2, 1) := by decide +kernel
theorem dX1_forgetYear_44 : decode cX1_forgetYear 44 = .ok (.bipush 36, 2) := by decide +kernel
theorem dX1_forgetYear_46 : decode cX1_forgetYear 46 = .ok (.if_icmp .ge 18, 3) := by decide +kernel
theorem dX1_forgetYear_49 : decode cX1_forgetYear 49 = .ok (.aload_n 0, 1) := by decide +kernel
theorem dX1_forgetYear_50 : decode cX1_forgetYear 50 = .ok (.getfield 31, 3) := by decide +kernel
theorem dX1_forgetYear_53 : decode cX1_forgetYear 53 = .ok (.iload_n 1, 1) := by decide +kernel
theorem dX1_forgetYear_54 : decode cX1_forgetYear 54 = .ok (.aaload, 1) := by decide +kernel
theorem dX1_forgetYear_55 : decode cX1_forgetYear 55 = .ok (.iload_n 2, 1) := by decide +kernel
theorem dX1_forgetYear_56 : decode cX1_forgetYear 56 = .ok (.iconst (-1), 1) := by decide +kernel
theorem dX1_forgetYear_57 : decode cX1_forgetYear 57 = .ok (.iastore, 1) := by decide +kernel
theorem dX1_forgetYear_58 : decode cX1_forgetYear 58 = .ok (.iinc 2 1, 3) := by decide +kernel
theorem dX1_forgetYear_61 : decode cX1_forgetYear 61 = .ok (.goto (-18), 3) := by decide +kernel
theorem dX1_forgetYear_64 : decode cX1_forgetYear 64 = .ok (.iinc 1 1, 3) := by decide +kernel
theorem dX1_forgetYear_67 : decode cX1_forgetYear 67 = .ok (.goto (-32), 3) := by decide +kernel
theorem dX1_forgetYear_70 : decode cX1_forgetYear 70 = .ok (.return_, 1) := by decide +kernel
theorem dX1_ringFeast_0 : decode cX1_ringFeast 0 = .ok (.iconst 0, 1) := by decide +kernel
theorem dX1_ringFeast_1 : decode cX1_ringFeast 1 = .ok (.istore 5, 2) := by decide +kernel
theorem dX1_ringFeast_3 : decode cX1_ringFeast 3 = .ok (.iload 5, 2) := by decide +kernel
theorem dX1_ringFeast_5 : decode cX1_ringFeast 5 = .ok (.bipush 6, 2) := by decide +kernel
theorem dX1_ringFeast_7 : decode cX1_ringFeast 7 = .ok (.if_icmp .ge 101, 3) := by decide +kernel
theorem dX1_ringFeast_10 : decode cX1_ringFeast 10 = .ok (.iconst 0, 1) := by decide +kernel
theorem dX1_ringFeast_11 : decode cX1_ringFeast 11 = .ok (.istore 6, 2) := by decide +kernel
theorem dX1_ringFeast_13 : decode cX1_ringFeast 13 = .ok (.iload 6, 2) := by decide +kernel
theorem dX1_ringFeast_15 : decode cX1_ringFeast 15 = .ok (.iload_n 2, 1) := by decide +kernel
theorem dX1_ringFeast_16 : decode cX1_ringFeast 16 = .ok (.if_icmp .ge 86, 3) := by decide +kernel
theorem dX1_ringFeast_19 : decode cX1_ringFeast 19 = .ok (.iload 6, 2) := by decide +kernel
theorem dX1_ringFeast_21 : decode cX1_ringFeast 21 = .ok (.aload_n 0, 1) := by decide +kernel
theorem dX1_ringFeast_22 : decode cX1_ringFeast 22 = .ok (.getfield 11, 3) := by decide +kernel
theorem dX1_ringFeast_25 : decode cX1_ringFeast 25 = .ok (.iload 5, 2) := by decide +kernel
theorem dX1_ringFeast_27 : decode cX1_ringFeast 27 = .ok (.iaload, 1) := by decide +kernel
theorem dX1_ringFeast_28 : decode cX1_ringFeast 28 = .ok (.if_icmp .ge 74, 3) := by decide +kernel
theorem dX1_ringFeast_31 : decode cX1_ringFeast 31 = .ok (.aload_n 0, 1) := by decide +kernel
theorem dX1_ringFeast_32 : decode cX1_ringFeast 32 = .ok (.iload 5, 2) := by decide +kernel
theorem dX1_ringFeast_34 : decode cX1_ringFeast 34 = .ok (.iload_n 3, 1) := by decide +kernel
theorem dX1_ringFeast_35 : decode cX1_ringFeast 35 = .ok (.invokevirtual 61, 3) := by decide +kernel
theorem dX1_ringFeast_38 : decode cX1_ringFeast 38 = .ok (.istore 7, 2) := by decide +kernel
theorem dX1_ringFeast_40 : decode cX1_ringFeast 40 = .ok (.aload_n 0, 1) := by decide +kernel
theorem dX1_ringFeast_41 : decode cX1_ringFeast 41 = .ok (.getfield 31, 3) := by decide +kernel
theorem dX1_ringFeast_44 : decode cX1_ringFeast 44 = .ok (.iload_n 1, 1) := by decide +kernel
theorem dX1_ringFeast_45 : decode cX1_ringFeast 45 = .ok (.aaload, 1) := by decide +kernel
theorem dX1_ringFeast_46 : decode cX1_ringFeast 46 = .ok (.bipush 6, 2) := by decide +kernel
theorem dX1_ringFeast_48 : decode cX1_ringFeast 48 = .ok (.iload 5, 2) := by decide +kernel
theorem dX1_ringFeast_50 : decode cX1_ringFeast 50 = .ok (.imul, 1) := by decide +kernel
theorem dX1_ringFeast_51 : decode cX1_ringFeast 51 = .ok (.iload 6, 2) := by decide +kernel
theorem dX1_ringFeast_53 : decode cX1_ringFeast 53 = .ok (.iadd, 1) := by decide +kernel
theorem dX1_ringFeast_54 : decode cX1_ringFeast 54 = .ok (.iload 7, 2) := by decide +kernel
theorem dX1_ringFeast_56 : decode cX1_ringFeast 56 = .ok (.iastore, 1) := by decide +kernel
theorem dX1_ringFeast_57 : decode cX1_ringFeast 57 = .ok (.iload 7, 2) := by decide +kernel
theorem dX1_ringFeast_59 : decode cX1_ringFeast 59 = .ok (.iconst (-1), 1) := by decide +kernel
theorem dX1_ringFeast_60 : decode cX1_ringFeast 60 = .ok (.if_icmp .ne 16, 3) := by decide +kernel
theorem dX1_ringFeast_63 : decode cX1_ringFeast 63 = .ok (.aload_n 0, 1) := by decide +kernel
theorem dX1_ringFeast_64 : decode cX1_ringFeast 64 = .ok (.dup, 1) := by decide +kernel
theorem dX1_ringFeast_65 : decode cX1_ringFeast 65 = .ok (.getfield 58, 3) := by decide +kernel
theorem dX1_ringFeast_68 : decode cX1_ringFeast 68 = .ok (.iconst 1, 1) := by decide +kernel
theorem dX1_ringFeast_69 : decode cX1_ringFeast 69 = .ok (.iadd, 1) := by decide +kernel
theorem dX1_ringFeast_70 : decode cX1_ringFeast 70 = .ok (.putfield 58, 3) := by decide +kernel
theorem dX1_ringFeast_73 : decode cX1_ringFeast 73 = .ok (.goto 23, 3) := by decide +kernel
theorem dX1_ringFeast_76 : decode cX1_ringFeast 76 = .ok (.aload_n 0, 1) := by decide +kernel
theorem dX1_ringFeast_77 : decode cX1_ringFeast 77 = .ok (.getfield 24, 3) := by decide +kernel
theorem dX1_ringFeast_80 : decode cX1_ringFeast 80 = .ok (.iload 7, 2) := by decide +kernel
theorem dX1_ringFeast_82 : decode cX1_ringFeast 82 = .ok (.dup2, 1) := by decide +kernel
theorem dX1_ringFeast_83 : decode cX1_ringFeast 83 = .ok (.iaload, 1) := by decide +kernel
theorem dX1_ringFeast_84 : decode cX1_ringFeast 84 = .ok (.iconst 1, 1) := by decide +kernel
theorem dX1_ringFeast_85 : decode cX1_ringFeast 85 = .ok (.iadd, 1) := by decide +kernel
theorem dX1_ringFeast_86 : decode cX1_ringFeast 86 = .ok (.iastore, 1) := by decide +kernel
theorem dX1_ringFeast_87 : decode cX1_ringFeast 87 = .ok (.aload_n 0, 1) := by decide +kernel
theorem dX1_ringFeast_88 : decode cX1_ringFeast 88 = .ok (.getfield 21, 3) := by decide +kernel
theorem dX1_ringFeast_91 : decode cX1_ringFeast 91 = .ok (.iload 7, 2) := by decide +kernel
theorem dX1_ringFeast_93 : decode cX1_ringFeast 93 = .ok (.iload 4, 2) := by decide +kernel
theorem dX1_ringFeast_95 : decode cX1_ringFeast 95 = .ok (.iastore, 1) := by decide +kernel
theorem dX1_ringFeast_96 : decode cX1_ringFeast 96 = .ok (.iinc 6 1, 3) := by decide +kernel
theorem dX1_ringFeast_99 : decode cX1_ringFeast 99 = .ok (.goto (-86), 3) := by decide +kernel
theorem dX1_ringFeast_102 : decode cX1_ringFeast 102 = .ok (.iinc 5 1, 3) := by decide +kernel
theorem dX1_ringFeast_105 : decode cX1_ringFeast 105 = .ok (.goto (-102), 3) := by decide +kernel
theorem dX1_ringFeast_108 : decode cX1_ringFeast 108 = .ok (.return_, 1) := by decide +kernel
theorem dX1_ringerFor_0 : decode cX1_ringerFor 0 = .ok (.iconst (-1), 1) := by decide +kernel
theorem dX1_ringerFor_1 : decode cX1_ringerFor 1 = .ok (.istore_n 3, 1) := by decide +kernel
theorem dX1_ringerFor_2 : decode cX1_ringerFor 2 = .ok (.iconst 0, 1) := by decide +kernel
theorem dX1_ringerFor_3 : decode cX1_ringerFor 3 = .ok (.istore 4, 2) := by decide +kernel
theorem dX1_ringerFor_5 : decode cX1_ringerFor 5 = .ok (.iload 4, 2) := by decide +kernel
theorem dX1_ringerFor_7 : decode cX1_ringerFor 7 = .ok (.aload_n 0, 1) := by decide +kernel
theorem dX1_ringerFor_8 : decode cX1_ringerFor 8 = .ok (.getfield 34, 3) := by decide +kernel
theorem dX1_ringerFor_11 : decode cX1_ringerFor 11 = .ok (.if_icmp .ge 66, 3) := by decide +kernel
theorem dX1_ringerFor_14 : decode cX1_ringerFor 14 = .ok (.aload_n 0, 1) := by decide +kernel
theorem dX1_ringerFor_15 : decode cX1_ringerFor 15 = .ok (.getfield 15, 3) := by decide +kernel
theorem dX1_ringerFor_18 : decode cX1_ringerFor 18 = .ok (.iload 4, 2) := by decide +kernel
theorem dX1_ringerFor_20 : decode cX1_ringerFor 20 = .ok (.iaload, 1) := by decide +kernel
theorem dX1_ringerFor_21 : decode cX1_ringerFor 21 = .ok (.iload_n 1, 1) := by decide +kernel
theorem dX1_ringerFor_22 : decode cX1_ringerFor 22 = .ok (.if_icmp .ne 17, 3) := by decide +kernel
theorem dX1_ringerFor_25 : decode cX1_ringerFor 25 = .ok (.aload_n 0, 1) := by decide +kernel
theorem dX1_ringerFor_26 : decode cX1_ringerFor 26 = .ok (.iload 4, 2) := by decide +kernel
theorem dX1_ringerFor_28 : decode cX1_ringerFor 28 = .ok (.iload_n 2, 1) := by decide +kernel
theorem dX1_ringerFor_29 : decode cX1_ringerFor 29 = .ok (.invokevirtual 65, 3) := by decide +kernel
theorem dX1_ringerFor_32 : decode cX1_ringerFor 32 = .ok (.ifCond .eq 7, 3) := by decide +kernel
theorem dX1_ringerFor_35 : decode cX1_ringerFor 35 = .ok (.iconst 1, 1) := by decide +kernel
theorem dX1_ringerFor_36 : decode cX1_ringerFor 36 = .ok (.goto 4, 3) := by decide +kernel
theorem dX1_ringerFor_39 : decode cX1_ringerFor 39 = .ok (.iconst 0, 1) := by decide +kernel
theorem dX1_ringerFor_40 : decode cX1_ringerFor 40 = .ok (.istore 5, 2) := by decide +kernel
theorem dX1_ringerFor_42 : decode cX1_ringerFor 42 = .ok (.iload 5, 2) := by decide +kernel
theorem dX1_ringerFor_44 : decode cX1_ringerFor 44 = .ok (.ifCond .eq 27, 3) := by decide +kernel
theorem dX1_ringerFor_47 : decode cX1_ringerFor 47 = .ok (.iload_n 3, 1) := by decide +kernel
theorem dX1_ringerFor_48 : decode cX1_ringerFor 48 = .ok (.iconst (-1), 1) := by decide +kernel
theorem dX1_ringerFor_49 : decode cX1_ringerFor 49 = .ok (.if_icmp .eq 19, 3) := by decide +kernel
theorem dX1_ringerFor_52 : decode cX1_ringerFor 52 = .ok (.aload_n 0, 1) := by decide +kernel
theorem dX1_ringerFor_53 : decode cX1_ringerFor 53 = .ok (.getfield 24, 3) := by decide +kernel
theorem dX1_ringerFor_56 : decode cX1_ringerFor 56 = .ok (.iload 4, 2) := by decide +kernel
theorem dX1_ringerFor_58 : decode cX1_ringerFor 58 = .ok (.iaload, 1) := by decide +kernel
theorem dX1_ringerFor_59 : decode cX1_ringerFor 59 = .ok (.aload_n 0, 1) := by decide +kernel
theorem dX1_ringerFor_60 : decode cX1_ringerFor 60 = .ok (.getfield 24, 3) := by decide +kernel
theorem dX1_ringerFor_63 : decode cX1_ringerFor 63 = .ok (.iload_n 3, 1) := by decide +kernel
theorem dX1_ringerFor_64 : decode cX1_ringerFor 64 = .ok (.iaload, 1) := by decide +kernel
theorem dX1_ringerFor_65 : decode cX1_ringerFor 65 = .ok (.if_icmp .ge 6, 3) := by decide +kernel
theorem dX1_ringerFor_68 : decode cX1_ringerFor 68 = .ok (.iload 4, 2) := by decide +kernel
theorem dX1_ringerFor_70 : decode cX1_ringerFor 70 = .ok (.istore_n 3, 1) := by decide +kernel
theorem dX1_ringerFor_71 : decode cX1_ringerFor 71 = .ok (.iinc 4 1, 3) := by decide +kernel
theorem dX1_ringerFor_74 : decode cX1_ringerFor 74 = .ok (.goto (-69), 3) := by decide +kernel
theorem dX1_ringerFor_77 : decode cX1_ringerFor 77 = .ok (.iload_n 3, 1) := by decide +kernel
theorem dX1_ringerFor_78 : decode cX1_ringerFor 78 = .ok (.ireturn, 1) := by decide +kernel
theorem dX1_isRested_0 : decode cX1_isRested 0 = .ok (.aload_n 0, 1) := by decide +kernel
theorem dX1_isRested_1 : decode cX1_isRested 1 = .ok (.getfield 21, 3) := by decide +kernel
theorem dX1_isRested_4 : decode cX1_isRested 4 = .ok (.iload_n 1, 1) := by decide +kernel
theorem dX1_isRested_5 : decode cX1_isRested 5 = .ok (.iaload, 1) := by decide +kernel
theorem dX1_isRested_6 : decode cX1_isRested 6 = .ok (.iconst (-1), 1) := by decide +kernel
theorem dX1_isRested_7 : decode cX1_isRested 7 = .ok (.if_icmp .eq 20, 3) := by decide +kernel
theorem dX1_isRested_10 : decode cX1_isRested 10 = .ok (.iload_n 2, 1) := by decide +kernel
theorem dX1_isRested_11 : decode cX1_isRested 11 = .ok (.aload_n 0, 1) := by decide +kernel
theorem dX1_isRested_12 : decode cX1_isRested 12 = .ok (.getfield 21, 3) := by decide +kernel
theorem dX1_isRested_15 : decode cX1_isRested 15 = .ok (.iload_n 1, 1) := by decide +kernel
theorem dX1_isRested_16 : decode cX1_isRested 16 = .ok (.iaload, 1) := by decide +kernel
theorem dX1_isRested_17 : decode cX1_isRested 17 = .ok (.isub, 1) := by decide +kernel
theorem dX1_isRested_18 : decode cX1_isRested 18 = .ok (.aload_n 0, 1) := by decide +kernel
theorem dX1_isRested_19 : decode cX1_isRested 19 = .ok (.getfield 18, 3) := by decide +kernel
theorem dX1_isRested_22 : decode cX1_isRested 22 = .ok (.iload_n 1, 1) := by decide +kernel
theorem dX1_isRested_23 : decode cX1_isRested 23 = .ok (.iaload, 1) := by decide +kernel
theorem dX1_isRested_24 : decode cX1_isRested 24 = .ok (.if_icmp .le 7, 3) := by decide +kernel
theorem dX1_isRested_27 : decode cX1_isRested 27 = .ok (.iconst 1, 1) := by decide +kernel
theorem dX1_isRested_28 : decode cX1_isRested 28 = .ok (.goto 4, 3) := by decide +kernel
theorem dX1_isRested_31 : decode cX1_isRested 31 = .ok (.iconst 0, 1) := by decide +kernel
theorem dX1_isRested_32 : decode cX1_isRested 32 = .ok (.ireturn, 1) := by decide +kernel
theorem dX1_ringerAt_0 : decode cX1_ringerAt 0 = .ok (.aload_n 0, 1) := by decide +kernel
theorem dX1_ringerAt_1 : decode cX1_ringerAt 1 = .ok (.getfield 31, 3) := by decide +kernel
theorem dX1_ringerAt_4 : decode cX1_ringerAt 4 = .ok (.iload_n 1, 1) := by decide +kernel
theorem dX1_ringerAt_5 : decode cX1_ringerAt 5 = .ok (.aaload, 1) := by decide +kernel
theorem dX1_ringerAt_6 : decode cX1_ringerAt 6 = .ok (.bipush 6, 2) := by decide +kernel
theorem dX1_ringerAt_8 : decode cX1_ringerAt 8 = .ok (.iload_n 2, 1) := by decide +kernel
theorem dX1_ringerAt_9 : decode cX1_ringerAt 9 = .ok (.imul, 1) := by decide +kernel
theorem dX1_ringerAt_10 : decode cX1_ringerAt 10 = .ok (.iload_n 3, 1) := by decide +kernel
theorem dX1_ringerAt_11 : decode cX1_ringerAt 11 = .ok (.iadd, 1) := by decide +kernel
theorem dX1_ringerAt_12 : decode cX1_ringerAt 12 = .ok (.iaload, 1) := by decide +kernel
theorem dX1_ringerAt_13 : decode cX1_ringerAt 13 = .ok (.ireturn, 1) := by decide +kernel
theorem dX1_silences_0 : decode cX1_silences 0 = .ok (.aload_n 0, 1) := by decide +kernel
theorem dX1_silences_1 : decode cX1_silences 1 = .ok (.getfield 58, 3) := by decide +kernel
theorem dX1_silences_4 : decode cX1_silences 4 = .ok (.ireturn, 1) := by decide +kernel
theorem dX1_countOf_0 : decode cX1_countOf 0 = .ok (.aload_n 0, 1) := by decide +kernel
theorem dX1_countOf_1 : decode cX1_countOf 1 = .ok (.getfield 24, 3) := by decide +kernel
theorem dX1_countOf_4 : decode cX1_countOf 4 = .ok (.iload_n 1, 1) := by decide +kernel
theorem dX1_countOf_5 : decode cX1_countOf 5 = .ok (.iaload, 1) := by decide +kernel
theorem dX1_countOf_6 : decode cX1_countOf 6 = .ok (.ireturn, 1) := by decide +kernel
theorem dX2_isLeap_0 : decode cX2_isLeap 0 = .ok (.iload_n 0, 1) := by decide +kernel
theorem dX2_isLeap_1 : decode cX2_isLeap 1 = .ok (.iconst 4, 1) := by decide +kernel
theorem dX2_isLeap_2 : decode cX2_isLeap 2 = .ok (.irem, 1) := by decide +kernel
theorem dX2_isLeap_3 : decode cX2_isLeap 3 = .ok (.ifCond .ne 10, 3) := by decide +kernel
theorem dX2_isLeap_6 : decode cX2_isLeap 6 = .ok (.iload_n 0, 1) := by decide +kernel
theorem dX2_isLeap_7 : decode cX2_isLeap 7 = .ok (.bipush 100, 2) := by decide +kernel
theorem dX2_isLeap_9 : decode cX2_isLeap 9 = .ok (.irem, 1) := by decide +kernel
theorem dX2_isLeap_10 : decode cX2_isLeap 10 = .ok (.ifCond .ne 11, 3) := by decide +kernel
theorem dX2_isLeap_13 : decode cX2_isLeap 13 = .ok (.iload_n 0, 1) := by decide +kernel
theorem dX2_isLeap_14 : decode cX2_isLeap 14 = .ok (.sipush 400, 3) := by decide +kernel
theorem dX2_isLeap_17 : decode cX2_isLeap 17 = .ok (.irem, 1) := by decide +kernel
theorem dX2_isLeap_18 : decode cX2_isLeap 18 = .ok (.ifCond .ne 7, 3) := by decide +kernel
theorem dX2_isLeap_21 : decode cX2_isLeap 21 = .ok (.iconst 1, 1) := by decide +kernel
theorem dX2_isLeap_22 : decode cX2_isLeap 22 = .ok (.goto 4, 3) := by decide +kernel
theorem dX2_isLeap_25 : decode cX2_isLeap 25 = .ok (.iconst 0, 1) := by decide +kernel
theorem dX2_isLeap_26 : decode cX2_isLeap 26 = .ok (.ireturn, 1) := by decide +kernel
theorem dX2_lengthOf_0 : decode cX2_lengthOf 0 = .ok (.iload_n 0, 1) := by decide +kernel
theorem dX2_lengthOf_1 : decode cX2_lengthOf 1 = .ok (.invokestatic 9, 3) := by decide +kernel
theorem dX2_lengthOf_4 : decode cX2_lengthOf 4 = .ok (.ifCond .eq 9, 3) := by decide +kernel
theorem dX2_lengthOf_7 : decode cX2_lengthOf 7 = .ok (.sipush 366, 3) := by decide +kernel
theorem dX2_lengthOf_10 : decode cX2_lengthOf 10 = .ok (.goto 6, 3) := by decide +kernel
theorem dX2_lengthOf_13 : decode cX2_lengthOf 13 = .ok (.sipush 365, 3) := by decide +kernel
theorem dX2_lengthOf_16 : decode cX2_lengthOf 16 = .ok (.ireturn, 1) := by decide +kernel
theorem dX2_firstDayOf_0 : decode cX2_firstDayOf 0 = .ok (.iload_n 0, 1) := by decide +kernel
theorem dX2_firstDayOf_1 : decode cX2_firstDayOf 1 = .ok (.iconst 3, 1) := by decide +kernel
theorem dX2_firstDayOf_2 : decode cX2_firstDayOf 2 = .ok (.iadd, 1) := by decide +kernel
theorem dX2_firstDayOf_3 : decode cX2_firstDayOf 3 = .ok (.iconst 4, 1) := by decide +kernel
theorem dX2_firstDayOf_4 : decode cX2_firstDayOf 4 = .ok (.idiv, 1) := by decide +kernel
theorem dX2_firstDayOf_5 : decode cX2_firstDayOf 5 = .ok (.iload_n 0, 1) := by decide +kernel
theorem dX2_firstDayOf_6 : decode cX2_firstDayOf 6 = .ok (.bipush 99, 2) := by decide +kernel
theorem dX2_firstDayOf_8 : decode cX2_firstDayOf 8 = .ok (.iadd, 1) := by decide +kernel
theorem dX2_firstDayOf_9 : decode cX2_firstDayOf 9 = .ok (.bipush 100, 2) := by decide +kernel
theorem dX2_firstDayOf_11 : decode cX2_firstDayOf 11 = .ok (.idiv, 1) := by decide +kernel
theorem dX2_firstDayOf_12 : decode cX2_firstDayOf 12 = .ok (.isub, 1) := by decide +kernel
theorem dX2_firstDayOf_13 : decode cX2_firstDayOf 13 = .ok (.iload_n 0, 1) := by decide +kernel
theorem dX2_firstDayOf_14 : decode cX2_firstDayOf 14 = .ok (.sipush 399, 3) := by decide +kernel
theorem dX2_firstDayOf_17 : decode cX2_firstDayOf 17 = .ok (.iadd, 1) := by decide +kernel
theorem dX2_firstDayOf_18 : decode cX2_firstDayOf 18 = .ok (.sipush 400, 3) := by decide +kernel
theorem dX2_firstDayOf_21 : decode cX2_firstDayOf 21 = .ok (.idiv, 1) := by decide +kernel
theorem dX2_firstDayOf_22 : decode cX2_firstDayOf 22 = .ok (.iadd, 1) := by decide +kernel
theorem dX2_firstDayOf_23 : decode cX2_firstDayOf 23 = .ok (.istore_n 1, 1) := by decide +kernel
theorem dX2_firstDayOf_24 : decode cX2_firstDayOf 24 = .ok (.sipush 365, 3) := by decide +kernel
theorem dX2_firstDayOf_27 : decode cX2_firstDayOf 27 = .ok (.iload_n 0, 1) := by decide +kernel
theorem dX2_firstDayOf_28 : decode cX2_firstDayOf 28 = .ok (.imul, 1) := by decide +kernel
theorem dX2_firstDayOf_29 : decode cX2_firstDayOf 29 = .ok (.iload_n 1, 1) := by decide +kernel
theorem dX2_firstDayOf_30 : decode cX2_firstDayOf 30 = .ok (.iadd, 1) := by decide +kernel
theorem dX2_firstDayOf_31 : decode cX2_firstDayOf 31 = .ok (.ireturn, 1) := by decide +kernel
theorem dX2_monthStart_0 : decode cX2_monthStart 0 = .ok (.iload_n 1, 1) := by decide +kernel
theorem dX2_monthStart_1 : decode cX2_monthStart 1 = .ok (.iconst 1, 1) := by decide +kernel
theorem dX2_monthStart_2 : decode cX2_monthStart 2 = .ok (.if_icmp .lt 9, 3) := by decide +kernel
theorem dX2_monthStart_5 : decode cX2_monthStart 5 = .ok (.iload_n 1, 1) := by decide +kernel
theorem dX2_monthStart_6 : decode cX2_monthStart 6 = .ok (.bipush 13, 2) := by decide +kernel
theorem dX2_monthStart_8 : decode cX2_monthStart 8 = .ok (.if_icmp .le 5, 3) := by decide +kernel
theorem dX2_monthStart_11 : decode cX2_monthStart 11 = .ok (.iconst (-1), 1) := by decide +kernel
theorem dX2_monthStart_12 : decode cX2_monthStart 12 = .ok (.ireturn, 1) := by decide +kernel
theorem dX2_monthStart_13 : decode cX2_monthStart 13 = .ok (.getstatic 15, 3) := by decide +kernel
theorem dX2_monthStart_16 : decode cX2_monthStart 16 = .ok (.iload_n 1, 1) := by decide +kernel
theorem dX2_monthStart_17 : decode cX2_monthStart 17 = .ok (.iconst 1, 1) := by decide +kernel
theorem dX2_monthStart_18 : decode cX2_monthStart 18 = .ok (.isub, 1) := by decide +kernel
theorem dX2_monthStart_19 : decode cX2_monthStart 19 = .ok (.iaload, 1) := by decide +kernel
theorem dX2_monthStart_20 : decode cX2_monthStart 20 = .ok (.iload_n 0, 1) := by decide +kernel
theorem dX2_monthStart_21 : decode cX2_monthStart 21 = .ok (.ifCond .eq 12, 3) := by decide +kernel
theorem dX2_monthStart_24 : decode cX2_monthStart 24 = .ok (.iload_n 1, 1) := by decide +kernel
theorem dX2_monthStart_25 : decode cX2_monthStart 25 = .ok (.iconst 2, 1) := by decide +kernel
theorem dX2_monthStart_26 : decode cX2_monthStart 26 = .ok (.if_icmp .le 7, 3) := by decide +kernel
theorem dX2_monthStart_29 : decode cX2_monthStart 29 = .ok (.iconst 1, 1) := by decide +kernel
theorem dX2_monthStart_30 : decode cX2_monthStart 30 = .ok (.goto 4, 3) := by decide +kernel
theorem dX2_monthStart_33 : decode cX2_monthStart 33 = .ok (.iconst 0, 1) := by decide +kernel
theorem dX2_monthStart_34 : decode cX2_monthStart 34 = .ok (.iadd, 1) := by decide +kernel
theorem dX2_monthStart_35 : decode cX2_monthStart 35 = .ok (.ireturn, 1) := by decide +kernel
theorem dX2_mostDaysOf_0 : decode cX2_mostDaysOf 0 = .ok (.iconst 1, 1) := by decide +kernel
theorem dX2_mostDaysOf_1 : decode cX2_mostDaysOf 1 = .ok (.iload_n 0, 1) := by decide +kernel
theorem dX2_mostDaysOf_2 : decode cX2_mostDaysOf 2 = .ok (.iconst 1, 1) := by decide +kernel
theorem dX2_mostDaysOf_3 : decode cX2_mostDaysOf 3 = .ok (.iadd, 1) := by decide +kernel
theorem dX2_mostDaysOf_4 : decode cX2_mostDaysOf 4 = .ok (.invokestatic 19, 3) := by decide +kernel
theorem dX2_mostDaysOf_7 : decode cX2_mostDaysOf 7 = .ok (.iconst 1, 1) := by decide +kernel
theorem dX2_mostDaysOf_8 : decode cX2_mostDaysOf 8 = .ok (.iload_n 0, 1) := by decide +kernel
theorem dX2_mostDaysOf_9 : decode cX2_mostDaysOf 9 = .ok (.invokestatic 19, 3) := by decide +kernel
theorem dX2_mostDaysOf_12 : decode cX2_mostDaysOf 12 = .ok (.isub, 1) := by decide +kernel
theorem dX2_mostDaysOf_13 : decode cX2_mostDaysOf 13 = .ok (.ireturn, 1) := by decide +kernel
theorem dX2_dateOf_0 : decode cX2_dateOf 0 = .ok (.iload_n 0, 1) := by decide +kernel
theorem dX2_dateOf_1 : decode cX2_dateOf 1 = .ok (.invokestatic 9, 3) := by decide +kernel
theorem dX2_dateOf_4 : decode cX2_dateOf 4 = .ok (.istore_n 2, 1) := by decide +kernel
theorem dX2_dateOf_5 : decode cX2_dateOf 5 = .ok (.iload_n 1, 1) := by decide +kernel
theorem dX2_dateOf_6 : decode cX2_dateOf 6 = .ok (.iload_n 2, 1) := by decide +kernel
theorem dX2_dateOf_7 : decode cX2_dateOf 7 = .ok (.bipush 13, 2) := by decide +kernel
theorem dX2_dateOf_9 : decode cX2_dateOf 9 = .ok (.invokestatic 19, 3) := by decide +kernel
theorem dX2_dateOf_12 : decode cX2_dateOf 12 = .ok (.if_icmp .lt 5, 3) := by decide +kernel
theorem dX2_dateOf_15 : decode cX2_dateOf 15 = .ok (.iconst (-1), 1) := by decide +kernel
theorem dX2_dateOf_16 : decode cX2_dateOf 16 = .ok (.ireturn, 1) := by decide +kernel
theorem dX2_dateOf_17 : decode cX2_dateOf 17 = .ok (.bipush 12, 2) := by decide +kernel
theorem dX2_dateOf_19 : decode cX2_dateOf 19 = .ok (.istore_n 3, 1) := by decide +kernel
theorem dX2_dateOf_20 : decode cX2_dateOf 20 = .ok (.iload_n 3, 1) := by decide +kernel
theorem dX2_dateOf_21 : decode cX2_dateOf 21 = .ok (.iconst 1, 1) := by decide +kernel
theorem dX2_dateOf_22 : decode cX2_dateOf 22 = .ok (.if_icmp .lt 34, 3) := by decide +kernel
theorem dX2_dateOf_25 : decode cX2_dateOf 25 = .ok (.iload_n 2, 1) := by decide +kernel
theorem dX2_dateOf_26 : decode cX2_dateOf 26 = .ok (.iload_n 3, 1) := by decide +kernel
theorem dX2_dateOf_27 : decode cX2_dateOf 27 = .ok (.invokestatic 19, 3) := by decide +kernel
theorem dX2_dateOf_30 : decode cX2_dateOf 30 = .ok (.istore 4, 2) := by decide +kernel
theorem dX2_dateOf_32 : decode cX2_dateOf 32 = .ok (.iload_n 1, 1) := by decide +kernel
theorem dX2_dateOf_33 : decode cX2_dateOf 33 = .ok (.iload 4, 2) := by decide +kernel
theorem dX2_dateOf_35 : decode cX2_dateOf 35 = .ok (.if_icmp .lt 15, 3) := by decide +kernel
theorem dX2_dateOf_38 : decode cX2_dateOf 38 = .ok (.bipush 100, 2) := by decide +kernel
theorem dX2_dateOf_40 : decode cX2_dateOf 40 = .ok (.iload_n 3, 1) := by decide +kernel
theorem dX2_dateOf_41 : decode cX2_dateOf 41 = .ok (.imul, 1) := by decide +kernel
theorem dX2_dateOf_42 : decode cX2_dateOf 42 = .ok (.iload_n 1, 1) := by decide +kernel
theorem dX2_dateOf_43 : decode cX2_dateOf 43 = .ok (.iadd, 1) := by decide +kernel
theorem dX2_dateOf_44 : decode cX2_dateOf 44 = .ok (.iload 4, 2) := by decide +kernel
theorem dX2_dateOf_46 : decode cX2_dateOf 46 = .ok (.isub, 1) := by decide +kernel
theorem dX2_dateOf_47 : decode cX2_dateOf 47 = .ok (.iconst 1, 1) := by decide +kernel
theorem dX2_dateOf_48 : decode cX2_dateOf 48 = .ok (.iadd, 1) := by decide +kernel
theorem dX2_dateOf_49 : decode cX2_dateOf 49 = .ok (.ireturn, 1) := by decide +kernel
theorem dX2_dateOf_50 : decode cX2_dateOf 50 = .ok (.iinc 3 (-1), 3) := by decide +kernel
theorem dX2_dateOf_53 : decode cX2_dateOf 53 = .ok (.goto (-33), 3) := by decide +kernel
theorem dX2_dateOf_56 : decode cX2_dateOf 56 = .ok (.iconst (-1), 1) := by decide +kernel
theorem dX2_dateOf_57 : decode cX2_dateOf 57 = .ok (.ireturn, 1) := by decide +kernel
theorem dX2_dayOf_0 : decode cX2_dayOf 0 = .ok (.iload_n 1, 1) := by decide +kernel
theorem dX2_dayOf_1 : decode cX2_dayOf 1 = .ok (.bipush 100, 2) := by decide +kernel
theorem dX2_dayOf_3 : decode cX2_dayOf 3 = .ok (.idiv, 1) := by decide +kernel
theorem dX2_dayOf_4 : decode cX2_dayOf 4 = .ok (.istore_n 2, 1) := by decide +kernel
theorem dX2_dayOf_5 : decode cX2_dayOf 5 = .ok (.iload_n 0, 1) := by decide +kernel
theorem dX2_dayOf_6 : decode cX2_dayOf 6 = .ok (.iload_n 2, 1) := by decide +kernel
theorem dX2_dayOf_7 : decode cX2_dayOf 7 = .ok (.invokestatic 19, 3) := by decide +kernel
theorem dX2_dayOf_10 : decode cX2_dayOf 10 = .ok (.iload_n 1, 1) := by decide +kernel
theorem dX2_dayOf_11 : decode cX2_dayOf 11 = .ok (.bipush 100, 2) := by decide +kernel
theorem dX2_dayOf_13 : decode cX2_dayOf 13 = .ok (.irem, 1) := by decide +kernel
theorem dX2_dayOf_14 : decode cX2_dayOf 14 = .ok (.iadd, 1) := by decide +kernel
theorem dX2_dayOf_15 : decode cX2_dayOf 15 = .ok (.iconst 1, 1) := by decide +kernel
theorem dX2_dayOf_16 : decode cX2_dayOf 16 = .ok (.isub, 1) := by decide +kernel
theorem dX2_dayOf_17 : decode cX2_dayOf 17 = .ok (.istore_n 3, 1) := by decide +kernel
theorem dX2_dayOf_18 : decode cX2_dayOf 18 = .ok (.iload_n 3, 1) := by decide +kernel
theorem dX2_dayOf_19 : decode cX2_dayOf 19 = .ok (.iload_n 0, 1) := by decide +kernel
theorem dX2_dayOf_20 : decode cX2_dayOf 20 = .ok (.iload_n 2, 1) := by decide +kernel
theorem dX2_dayOf_21 : decode cX2_dayOf 21 = .ok (.iconst 1, 1) := by decide +kernel
theorem dX2_dayOf_22 : decode cX2_dayOf 22 = .ok (.iadd, 1) := by decide +kernel
theorem dX2_dayOf_23 : decode cX2_dayOf 23 = .ok (.invokestatic 19, 3) := by decide +kernel
theorem dX2_dayOf_26 : decode cX2_dayOf 26 = .ok (.if_icmp .ge 7, 3) := by decide +kernel
theorem dX2_dayOf_29 : decode cX2_dayOf 29 = .ok (.iload_n 3, 1) := by decide +kernel
theorem dX2_dayOf_30 : decode cX2_dayOf 30 = .ok (.goto 4, 3) := by decide +kernel
theorem dX2_dayOf_33 : decode cX2_dayOf 33 = .ok (.iconst (-1), 1) := by decide +kernel
theorem dX2_dayOf_34 : decode cX2_dayOf 34 = .ok (.ireturn, 1) := by decide +kernel
theorem dX2_weekdayOf_0 : decode cX2_weekdayOf 0 = .ok (.iload_n 0, 1) := by decide +kernel
theorem dX2_weekdayOf_1 : decode cX2_weekdayOf 1 = .ok (.bipush 6, 2) := by decide +kernel
theorem dX2_weekdayOf_3 : decode cX2_weekdayOf 3 = .ok (.iadd, 1) := by decide +kernel
theorem dX2_weekdayOf_4 : decode cX2_weekdayOf 4 = .ok (.bipush 7, 2) := by decide +kernel
theorem dX2_weekdayOf_6 : decode cX2_weekdayOf 6 = .ok (.invokestatic 23, 3) := by decide +kernel
theorem dX2_weekdayOf_9 : decode cX2_weekdayOf 9 = .ok (.ireturn, 1) := by decide +kernel
theorem dX2_ageOf_0 : decode cX2_ageOf 0 = .ok (.iload_n 0, 1) := by decide +kernel
theorem dX2_ageOf_1 : decode cX2_ageOf 1 = .ok (.iload_n 0, 1) := by decide +kernel
theorem dX2_ageOf_2 : decode cX2_ageOf 2 = .ok (.iload_n 1, 1) := by decide +kernel
theorem dX2_ageOf_3 : decode cX2_ageOf 3 = .ok (.invokestatic 29, 3) := by decide +kernel
theorem dX2_ageOf_6 : decode cX2_ageOf 6 = .ok (.iload_n 1, 1) := by decide +kernel
theorem dX2_ageOf_7 : decode cX2_ageOf 7 = .ok (.invokestatic 32, 3) := by decide +kernel
theorem dX2_ageOf_10 : decode cX2_ageOf 10 = .ok (.isub, 1) := by decide +kernel
theorem dX2_ageOf_11 : decode cX2_ageOf 11 = .ok (.ireturn, 1) := by decide +kernel
theorem dX2_newMoon_0 : decode cX2_newMoon 0 = .ok (.iload_n 1, 1) := by decide +kernel
theorem dX2_newMoon_1 : decode cX2_newMoon 1 = .ok (.ifCond .ne 18, 3) := by decide +kernel
theorem dX2_newMoon_4 : decode cX2_newMoon 4 = .ok (.sipush 945, 3) := by decide +kernel
theorem dX2_newMoon_7 : decode cX2_newMoon 7 = .ok (.iload_n 0, 1) := by decide +kernel
theorem dX2_newMoon_8 : decode cX2_newMoon 8 = .ok (.imul, 1) := by decide +kernel
theorem dX2_newMoon_9 : decode cX2_newMoon 9 = .ok (.bipush 32, 2) := by decide +kernel
theorem dX2_newMoon_11 : decode cX2_newMoon 11 = .ok (.invokestatic 35, 3) := by decide +kernel
theorem dX2_newMoon_14 : decode cX2_newMoon 14 = .ok (.iconst 5, 1) := by decide +kernel
theorem dX2_newMoon_15 : decode cX2_newMoon 15 = .ok (.iadd, 1) := by decide +kernel
theorem dX2_newMoon_16 : decode cX2_newMoon 16 = .ok (.goto 17, 3) := by decide +kernel
theorem dX2_newMoon_19 : decode cX2_newMoon 19 = .ok (.sipush 6940, 3) := by decide +kernel
theorem dX2_newMoon_22 : decode cX2_newMoon 22 = .ok (.iload_n 0, 1) := by decide +kernel
theorem dX2_newMoon_23 : decode cX2_newMoon 23 = .ok (.imul, 1) := by decide +kernel
theorem dX2_newMoon_24 : decode cX2_newMoon 24 = .ok (.sipush 235, 3) := by decide +kernel
theorem dX2_newMoon_27 : decode cX2_newMoon 27 = .ok (.invokestatic 35, 3) := by decide +kernel
theorem dX2_newMoon_30 : decode cX2_newMoon 30 = .ok (.bipush 6, 2) := by decide +kernel
theorem dX2_newMoon_32 : decode cX2_newMoon 32 = .ok (.iadd, 1) := by decide +kernel
theorem dX2_newMoon_33 : decode cX2_newMoon 33 = .ok (.ireturn, 1) := by decide +kernel
theorem dX2_lastMoon_0 : decode cX2_lastMoon 0 = .ok (.iload_n 1, 1) := by decide +kernel
theorem dX2_lastMoon_1 : decode cX2_lastMoon 1 = .ok (.ifCond .ne 22, 3) := by decide +kernel
theorem dX2_lastMoon_4 : decode cX2_lastMoon 4 = .ok (.bipush 32, 2) := by decide +kernel
theorem dX2_lastMoon_6 : decode cX2_lastMoon 6 = .ok (.iload_n 0, 1) := by decide +kernel
theorem dX2_lastMoon_7 : decode cX2_lastMoon 7 = .ok (.iconst 5, 1) := by decide +kernel
theorem dX2_lastMoon_8 : decode cX2_lastMoon 8 = .ok (.isub, 1) := by decide +kernel
theorem dX2_lastMoon_9 : decode cX2_lastMoon 9 = .ok (.iconst 1, 1) := by decide +kernel
theorem dX2_lastMoon_10 : decode cX2_lastMoon 10 = .ok (.iadd, 1) := by decide +kernel
theorem dX2_lastMoon_11 : decode cX2_lastMoon 11 = .ok (.imul, 1) := by decide +kernel
theorem dX2_lastMoon_12 : decode cX2_lastMoon 12 = .ok (.iconst 1, 1) := by decide +kernel
theorem dX2_lastMoon_13 : decode cX2_lastMoon 13 = .ok (.isub, 1) := by decide +kernel
theorem dX2_lastMoon_14 : decode cX2_lastMoon 14 = .ok (.sipush 945, 3) := by decide +kernel
theorem dX2_lastMoon_17 : decode cX2_lastMoon 17 = .ok (.invokestatic 35, 3) := by decide +kernel
theorem dX2_lastMoon_20 : decode cX2_lastMoon 20 = .ok (.goto 21, 3) := by decide +kernel
theorem dX2_lastMoon_23 : decode cX2_lastMoon 23 = .ok (.sipush 235, 3) := by decide +kernel
theorem dX2_lastMoon_26 : decode cX2_lastMoon 26 = .ok (.iload_n 0, 1) := by decide +kernel
theorem dX2_lastMoon_27 : decode cX2_lastMoon 27 = .ok (.bipush 6, 2) := by decide +kernel
theorem dX2_lastMoon_29 : decode cX2_lastMoon 29 = .ok (.isub, 1) := by decide +kernel
theorem dX2_lastMoon_30 : decode cX2_lastMoon 30 = .ok (.iconst 1, 1) := by decide +kernel
theorem dX2_lastMoon_31 : decode cX2_lastMoon 31 = .ok (.iadd, 1) := by decide +kernel
theorem dX2_lastMoon_32 : decode cX2_lastMoon 32 = .ok (.imul, 1) := by decide +kernel
theorem dX2_lastMoon_33 : decode cX2_lastMoon 33 = .ok (.iconst 1, 1) := by decide +kernel
theorem dX2_lastMoon_34 : decode cX2_lastMoon 34 = .ok (.isub, 1) := by decide +kernel
theorem dX2_lastMoon_35 : decode cX2_lastMoon 35 = .ok (.sipush 6940, 3) := by decide +kernel
theorem dX2_lastMoon_38 : decode cX2_lastMoon 38 = .ok (.invokestatic 35, 3) := by decide +kernel
theorem dX2_lastMoon_41 : decode cX2_lastMoon 41 = .ok (.ireturn, 1) := by decide +kernel
theorem dX3_init_0 : decode cX3_init 0 = .ok (.aload_n 0, 1) := by decide +kernel
theorem dX3_init_1 : decode cX3_init 1 = .ok (.invokespecial 3, 3) := by decide +kernel
theorem dX3_init_4 : decode cX3_init 4 = .ok (.aload_n 0, 1) := by decide +kernel
theorem dX3_init_5 : decode cX3_init 5 = .ok (.bipush 40, 2) := by decide +kernel
theorem dX3_init_7 : decode cX3_init 7 = .ok (.newarray .int, 2) := by decide +kernel
theorem dX3_init_9 : decode cX3_init 9 = .ok (.putfield 11, 3) := by decide +kernel
theorem dX3_init_12 : decode cX3_init 12 = .ok (.aload_n 0, 1) := by decide +kernel
theorem dX3_init_13 : decode cX3_init 13 = .ok (.bipush 40, 2) := by decide +kernel
theorem dX3_init_15 : decode cX3_init 15 = .ok (.newarray .int, 2) := by decide +kernel
theorem dX3_init_17 : decode cX3_init 17 = .ok (.putfield 15, 3) := by decide +kernel
theorem dX3_init_20 : decode cX3_init 20 = .ok (.return_, 1) := by decide +kernel
theorem dX3_clear_0 : decode cX3_clear 0 = .ok (.aload_n 0, 1) := by decide +kernel
theorem dX3_clear_1 : decode cX3_clear 1 = .ok (.iconst 0, 1) := by decide +kernel
theorem dX3_clear_2 : decode cX3_clear 2 = .ok (.putfield 18, 3) := by decide +kernel
theorem dX3_clear_5 : decode cX3_clear 5 = .ok (.aload_n 0, 1) := by decide +kernel
theorem dX3_clear_6 : decode cX3_clear 6 = .ok (.iconst 0, 1) := by decide +kernel
theorem dX3_clear_7 : decode cX3_clear 7 = .ok (.putfield 22, 3) := by decide +kernel
theorem dX3_clear_10 : decode cX3_clear 10 = .ok (.return_, 1) := by decide +kernel
theorem dX3_size_0 : decode cX3_size 0 = .ok (.aload_n 0, 1) := by decide +kernel
theorem dX3_size_1 : decode cX3_size 1 = .ok (.getfield 18, 3) := by decide +kernel
theorem dX3_size_4 : decode cX3_size 4 = .ok (.ireturn, 1) := by decide +kernel
theorem dX3_add_0 : decode cX3_add 0 = .ok (.aload_n 0, 1) := by decide +kernel
theorem dX3_add_1 : decode cX3_add 1 = .ok (.getfield 18, 3) := by decide +kernel
theorem dX3_add_4 : decode cX3_add 4 = .ok (.bipush 40, 2) := by decide +kernel
theorem dX3_add_6 : decode cX3_add 6 = .ok (.if_icmp .lt 5, 3) := by decide +kernel
theorem dX3_add_9 : decode cX3_add 9 = .ok (.iconst 0, 1) := by decide +kernel
theorem dX3_add_10 : decode cX3_add 10 = .ok (.ireturn, 1) := by decide +kernel
theorem dX3_add_11 : decode cX3_add 11 = .ok (.aload_n 0, 1) := by decide +kernel
theorem dX3_add_12 : decode cX3_add 12 = .ok (.getfield 11, 3) := by decide +kernel
theorem dX3_add_15 : decode cX3_add 15 = .ok (.aload_n 0, 1) := by decide +kernel
theorem dX3_add_16 : decode cX3_add 16 = .ok (.getfield 18, 3) := by decide +kernel
theorem dX3_add_19 : decode cX3_add 19 = .ok (.iload_n 1, 1) := by decide +kernel
theorem dX3_add_20 : decode cX3_add 20 = .ok (.iastore, 1) := by decide +kernel
theorem dX3_add_21 : decode cX3_add 21 = .ok (.aload_n 0, 1) := by decide +kernel
theorem dX3_add_22 : decode cX3_add 22 = .ok (.getfield 15, 3) := by decide +kernel
theorem dX3_add_25 : decode cX3_add 25 = .ok (.aload_n 0, 1) := by decide +kernel
theorem dX3_add_26 : decode cX3_add 26 = .ok (.getfield 18, 3) := by decide +kernel
theorem dX3_add_29 : decode cX3_add 29 = .ok (.iload_n 2, 1) := by decide +kernel
theorem dX3_add_30 : decode cX3_add 30 = .ok (.iastore, 1) := by decide +kernel
theorem dX3_add_31 : decode cX3_add 31 = .ok (.aload_n 0, 1) := by decide +kernel
theorem dX3_add_32 : decode cX3_add 32 = .ok (.dup, 1) := by decide +kernel
theorem dX3_add_33 : decode cX3_add 33 = .ok (.getfield 18, 3) := by decide +kernel
theorem dX3_add_36 : decode cX3_add 36 = .ok (.iconst 1, 1) := by decide +kernel
theorem dX3_add_37 : decode cX3_add 37 = .ok (.iadd, 1) := by decide +kernel
theorem dX3_add_38 : decode cX3_add 38 = .ok (.putfield 18, 3) := by decide +kernel
theorem dX3_add_41 : decode cX3_add 41 = .ok (.iconst 1, 1) := by decide +kernel
theorem dX3_add_42 : decode cX3_add 42 = .ok (.ireturn, 1) := by decide +kernel
theorem dX3_name_0 : decode cX3_name 0 = .ok (.aload_n 0, 1) := by decide +kernel
theorem dX3_name_1 : decode cX3_name 1 = .ok (.dup, 1) := by decide +kernel
theorem dX3_name_2 : decode cX3_name 2 = .ok (.getfield 22, 3) := by decide +kernel
theorem dX3_name_5 : decode cX3_name 5 = .ok (.iconst 1, 1) := by decide +kernel
theorem dX3_name_6 : decode cX3_name 6 = .ok (.iload_n 1, 1) := by decide +kernel
theorem dX3_name_7 : decode cX3_name 7 = .ok (.ishl, 1) := by decide +kernel
theorem dX3_name_8 : decode cX3_name 8 = .ok (.ior, 1) := by decide +kernel
theorem dX3_name_9 : decode cX3_name 9 = .ok (.putfield 22, 3) := by decide +kernel
theorem dX3_name_12 : decode cX3_name 12 = .ok (.return_, 1) := by decide +kernel
theorem dX3_namesBeyond_0 : decode cX3_namesBeyond 0 = .ok (.aload_n 0, 1) := by decide +kernel
theorem dX3_namesBeyond_1 : decode cX3_namesBeyond 1 = .ok (.getfield 22, 3) := by decide +kernel
theorem dX3_namesBeyond_4 : decode cX3_namesBeyond 4 = .ok (.iload_n 1, 1) := by decide +kernel
theorem dX3_namesBeyond_5 : decode cX3_namesBeyond 5 = .ok (.iushr, 1) := by decide +kernel
theorem dX3_namesBeyond_6 : decode cX3_namesBeyond 6 = .ok (.ifCond .eq 7, 3) := by decide +kernel
theorem dX3_namesBeyond_9 : decode cX3_namesBeyond 9 = .ok (.iconst 1, 1) := by decide +kernel
theorem dX3_namesBeyond_10 : decode cX3_namesBeyond 10 = .ok (.goto 4, 3) := by decide +kernel
theorem dX3_namesBeyond_13 : decode cX3_namesBeyond 13 = .ok (.iconst 0, 1) := by decide +kernel
theorem dX3_namesBeyond_14 : decode cX3_namesBeyond 14 = .ok (.ireturn, 1) := by decide +kernel
theorem dX3_landHere_0 : decode cX3_landHere 0 = .ok (.iload_n 1, 1) := by decide +kernel
theorem dX3_landHere_1 : decode cX3_landHere 1 = .ok (.ifCond .lt 11, 3) := by decide +kernel
theorem dX3_landHere_4 : decode cX3_landHere 4 = .ok (.iload_n 1, 1) := by decide +kernel
theorem dX3_landHere_5 : decode cX3_landHere 5 = .ok (.aload_n 0, 1) := by decide +kernel
theorem dX3_landHere_6 : decode cX3_landHere 6 = .ok (.getfield 18, 3) := by decide +kernel
theorem dX3_landHere_9 : decode cX3_landHere 9 = .ok (.if_icmp .lt 5, 3) := by decide +kernel
theorem dX3_landHere_12 : decode cX3_landHere 12 = .ok (.iconst 0, 1) := by decide +kernel
theorem dX3_landHere_13 : decode cX3_landHere 13 = .ok (.ireturn, 1) := by decide +kernel
theorem dX3_landHere_14 : decode cX3_landHere 14 = .ok (.aload_n 0, 1) := by decide +kernel
theorem dX3_landHere_15 : decode cX3_landHere 15 = .ok (.getfield 15, 3) := by decide +kernel
theorem dX3_landHere_18 : decode cX3_landHere 18 = .ok (.iload_n 1, 1) := by decide +kernel
theorem dX3_landHere_19 : decode cX3_landHere 19 = .ok (.aload_n 0, 1) := by decide +kernel
theorem dX3_landHere_20 : decode cX3_landHere 20 = .ok (.getfield 18, 3) := by decide +kernel
theorem dX3_landHere_23 : decode cX3_landHere 23 = .ok (.iastore, 1) := by decide +kernel
theorem dX3_landHere_24 : decode cX3_landHere 24 = .ok (.iconst 1, 1) := by decide +kernel
theorem dX3_landHere_25 : decode cX3_landHere 25 = .ok (.ireturn, 1) := by decide +kernel
theorem dX3_kindAt_0 : decode cX3_kindAt 0 = .ok (.iload_n 1, 1) := by decide +kernel
theorem dX3_kindAt_1 : decode cX3_kindAt 1 = .ok (.ifCond .lt 20, 3) := by decide +kernel
theorem dX3_kindAt_4 : decode cX3_kindAt 4 = .ok (.iload_n 1, 1) := by decide +kernel
theorem dX3_kindAt_5 : decode cX3_kindAt 5 = .ok (.aload_n 0, 1) := by decide +kernel
theorem dX3_kindAt_6 : decode cX3_kindAt 6 = .ok (.getfield 18, 3) := by decide +kernel
theorem dX3_kindAt_9 : decode cX3_kindAt 9 = .ok (.if_icmp .ge 12, 3) := by decide +kernel
theorem dX3_kindAt_12 : decode cX3_kindAt 12 = .ok (.aload_n 0, 1) := by decide +kernel
theorem dX3_kindAt_13 : decode cX3_kindAt 13 = .ok (.getfield 11, 3) := by decide +kernel
theorem dX3_kindAt_16 : decode cX3_kindAt 16 = .ok (.iload_n 1, 1) := by decide +kernel
theorem dX3_kindAt_17 : decode cX3_kindAt 17 = .ok (.iaload, 1) := by decide +kernel
theorem dX3_kindAt_18 : decode cX3_kindAt 18 = .ok (.goto 4, 3) := by decide +kernel
theorem dX3_kindAt_21 : decode cX3_kindAt 21 = .ok (.iconst 0, 1) := by decide +kernel
theorem dX3_kindAt_22 : decode cX3_kindAt 22 = .ok (.ireturn, 1) := by decide +kernel
theorem dX3_argumentAt_0 : decode cX3_argumentAt 0 = .ok (.iload_n 1, 1) := by decide +kernel
theorem dX3_argumentAt_1 : decode cX3_argumentAt 1 = .ok (.ifCond .lt 20, 3) := by decide +kernel
theorem dX3_argumentAt_4 : decode cX3_argumentAt 4 = .ok (.iload_n 1, 1) := by decide +kernel
theorem dX3_argumentAt_5 : decode cX3_argumentAt 5 = .ok (.aload_n 0, 1) := by decide +kernel
theorem dX3_argumentAt_6 : decode cX3_argumentAt 6 = .ok (.getfield 18, 3) := by decide +kernel
theorem dX3_argumentAt_9 : decode cX3_argumentAt 9 = .ok (.if_icmp .ge 12, 3) := by decide +kernel
theorem dX3_argumentAt_12 : decode cX3_argumentAt 12 = .ok (.aload_n 0, 1) := by decide +kernel
theorem dX3_argumentAt_13 : decode cX3_argumentAt 13 = .ok (.getfield 15, 3) := by decide +kernel
theorem dX3_argumentAt_16 : decode cX3_argumentAt 16 = .ok (.iload_n 1, 1) := by decide +kernel
theorem dX3_argumentAt_17 : decode cX3_argumentAt 17 = .ok (.iaload, 1) := by decide +kernel
theorem dX3_argumentAt_18 : decode cX3_argumentAt 18 = .ok (.goto 4, 3) := by decide +kernel
theorem dX3_argumentAt_21 : decode cX3_argumentAt 21 = .ok (.iconst 0, 1) := by decide +kernel
theorem dX3_argumentAt_22 : decode cX3_argumentAt 22 = .ok (.ireturn, 1) := by decide +kernel
theorem dX3_placeAfter_0 : decode cX3_placeAfter 0 = .ok (.aload_n 0, 1) := by decide +kernel
theorem dX3_placeAfter_1 : decode cX3_placeAfter 1 = .ok (.iload_n 1, 1) := by decide +kernel
theorem dX3_placeAfter_2 : decode cX3_placeAfter 2 = .ok (.invokevirtual 25, 3) := by decide +kernel
theorem dX3_placeAfter_5 : decode cX3_placeAfter 5 = .ok (.istore_n 3, 1) := by decide +kernel
theorem dX3_placeAfter_6 : decode cX3_placeAfter 6 = .ok (.iload_n 3, 1) := by decide +kernel
theorem dX3_placeAfter_7 : decode cX3_placeAfter 7 = .ok (.bipush 18, 2) := by decide +kernel
theorem dX3_placeAfter_9 : decode cX3_placeAfter 9 = .ok (.if_icmp .eq 23, 3) := by decide +kernel
theorem dX3_placeAfter_12 : decode cX3_placeAfter 12 = .ok (.iload_n 3, 1) := by decide +kernel
theorem dX3_placeAfter_13 : decode cX3_placeAfter 13 = .ok (.bipush 19, 2) := by decide +kernel
theorem dX3_placeAfter_15 : decode cX3_placeAfter 15 = .ok (.if_icmp .ne 7, 3) := by decide +kernel
theorem dX3_placeAfter_18 : decode cX3_placeAfter 18 = .ok (.iload_n 2, 1) := by decide +kernel
theorem dX3_placeAfter_19 : decode cX3_placeAfter 19 = .ok (.ifCond .eq 13, 3) := by decide +kernel
theorem dX3_placeAfter_22 : decode cX3_placeAfter 22 = .ok (.iload_n 3, 1) := by decide +kernel
theorem dX3_placeAfter_23 : decode cX3_placeAfter 23 = .ok (.bipush 20, 2) := by decide +kernel
theorem dX3_placeAfter_25 : decode cX3_placeAfter 25 = .ok (.if_icmp .ne 11, 3) := by decide +kernel
theorem dX3_placeAfter_28 : decode cX3_placeAfter 28 = .ok (.iload_n 2, 1) := by decide +kernel
theorem dX3_placeAfter_29 : decode cX3_placeAfter 29 = .ok (.ifCond .eq 7, 3) := by decide +kernel
theorem dX3_placeAfter_32 : decode cX3_placeAfter 32 = .ok (.iconst 1, 1) := by decide +kernel
theorem dX3_placeAfter_33 : decode cX3_placeAfter 33 = .ok (.goto 4, 3) := by decide +kernel
theorem dX3_placeAfter_36 : decode cX3_placeAfter 36 = .ok (.iconst 0, 1) := by decide +kernel
theorem dX3_placeAfter_37 : decode cX3_placeAfter 37 = .ok (.istore 4, 2) := by decide +kernel
theorem dX3_placeAfter_39 : decode cX3_placeAfter 39 = .ok (.iload 4, 2) := by decide +kernel
theorem dX3_placeAfter_41 : decode cX3_placeAfter 41 = .ok (.ifCond .eq 11, 3) := by decide +kernel
theorem dX3_placeAfter_44 : decode cX3_placeAfter 44 = .ok (.aload_n 0, 1) := by decide +kernel
theorem dX3_placeAfter_45 : decode cX3_placeAfter 45 = .ok (.iload_n 1, 1) := by decide +kernel
theorem dX3_placeAfter_46 : decode cX3_placeAfter 46 = .ok (.invokevirtual 29, 3) := by decide +kernel
theorem dX3_placeAfter_49 : decode cX3_placeAfter 49 = .ok (.goto 6, 3) := by decide +kernel
theorem dX3_placeAfter_52 : decode cX3_placeAfter 52 = .ok (.iload_n 1, 1) := by decide +kernel
theorem dX3_placeAfter_53 : decode cX3_placeAfter 53 = .ok (.iconst 1, 1) := by decide +kernel
theorem dX3_placeAfter_54 : decode cX3_placeAfter 54 = .ok (.iadd, 1) := by decide +kernel
theorem dX3_placeAfter_55 : decode cX3_placeAfter 55 = .ok (.ireturn, 1) := by decide +kernel
theorem dX3_copyFrom_0 : decode cX3_copyFrom 0 = .ok (.aload_n 1, 1) := by decide +kernel
theorem dX3_copyFrom_1 : decode cX3_copyFrom 1 = .ok (.getfield 11, 3) := by decide +kernel
theorem dX3_copyFrom_4 : decode cX3_copyFrom 4 = .ok (.iconst 0, 1) := by decide +kernel
theorem dX3_copyFrom_5 : decode cX3_copyFrom 5 = .ok (.aload_n 0, 1) := by decide +kernel
theorem dX3_copyFrom_6 : decode cX3_copyFrom 6 = .ok (.getfield 11, 3) := by decide +kernel
theorem dX3_copyFrom_9 : decode cX3_copyFrom 9 = .ok (.iconst 0, 1) := by decide +kernel
theorem dX3_copyFrom_10 : decode cX3_copyFrom 10 = .ok (.bipush 40, 2) := by decide +kernel
theorem dX3_copyFrom_12 : decode cX3_copyFrom 12 = .ok (.invokestatic 32, 3) := by decide +kernel
theorem dX3_copyFrom_15 : decode cX3_copyFrom 15 = .ok (.aload_n 1, 1) := by decide +kernel
theorem dX3_copyFrom_16 : decode cX3_copyFrom 16 = .ok (.getfield 15, 3) := by decide +kernel
theorem dX3_copyFrom_19 : decode cX3_copyFrom 19 = .ok (.iconst 0, 1) := by decide +kernel
theorem dX3_copyFrom_20 : decode cX3_copyFrom 20 = .ok (.aload_n 0, 1) := by decide +kernel
theorem dX3_copyFrom_21 : decode cX3_copyFrom 21 = .ok (.getfield 15, 3) := by decide +kernel
theorem dX3_copyFrom_24 : decode cX3_copyFrom 24 = .ok (.iconst 0, 1) := by decide +kernel
theorem dX3_copyFrom_25 : decode cX3_copyFrom 25 = .ok (.bipush 40, 2) := by decide +kernel
theorem dX3_copyFrom_27 : decode cX3_copyFrom 27 = .ok (.invokestatic 32, 3) := by decide +kernel
theorem dX3_copyFrom_30 : decode cX3_copyFrom 30 = .ok (.aload_n 0, 1) := by decide +kernel
theorem dX3_copyFrom_31 : decode cX3_copyFrom 31 = .ok (.aload_n 1, 1) := by decide +kernel
theorem dX3_copyFrom_32 : decode cX3_copyFrom 32 = .ok (.getfield 18, 3) := by decide +kernel
theorem dX3_copyFrom_35 : decode cX3_copyFrom 35 = .ok (.putfield 18, 3) := by decide +kernel
theorem dX3_copyFrom_38 : decode cX3_copyFrom 38 = .ok (.aload_n 0, 1) := by decide +kernel
theorem dX3_copyFrom_39 : decode cX3_copyFrom 39 = .ok (.aload_n 1, 1) := by decide +kernel
theorem dX3_copyFrom_40 : decode cX3_copyFrom 40 = .ok (.getfield 22, 3) := by decide +kernel
theorem dX3_copyFrom_43 : decode cX3_copyFrom 43 = .ok (.putfield 22, 3) := by decide +kernel
theorem dX3_copyFrom_46 : decode cX3_copyFrom 46 = .ok (.return_, 1) := by decide +kernel
theorem dX4_init_0 : decode cX4_init 0 = .ok (.aload_n 0, 1) := by decide +kernel
theorem dX4_init_1 : decode cX4_init 1 = .ok (.invokespecial 1, 3) := by decide +kernel
theorem dX4_init_4 : decode cX4_init 4 = .ok (.aload_n 0, 1) := by decide +kernel
theorem dX4_init_5 : decode cX4_init 5 = .ok (.new 7, 3) := by decide +kernel
theorem dX4_init_8 : decode cX4_init 8 = .ok (.dup, 1) := by decide +kernel
theorem dX4_init_9 : decode cX4_init 9 = .ok (.invokespecial 9, 3) := by decide +kernel
theorem dX4_init_12 : decode cX4_init 12 = .ok (.putfield 10, 3) := by decide +kernel
theorem dX4_init_15 : decode cX4_init 15 = .ok (.aload_n 0, 1) := by decide +kernel
theorem dX4_init_16 : decode cX4_init 16 = .ok (.new 16, 3) := by decide +kernel
theorem dX4_init_19 : decode cX4_init 19 = .ok (.dup, 1) := by decide +kernel
theorem dX4_init_20 : decode cX4_init 20 = .ok (.invokespecial 18, 3) := by decide +kernel
theorem dX4_init_23 : decode cX4_init 23 = .ok (.putfield 19, 3) := by decide +kernel
theorem dX4_init_26 : decode cX4_init 26 = .ok (.return_, 1) := by decide +kernel
theorem dX5_init_0 : decode cX5_init 0 = .ok (.aload_n 0, 1) := by decide +kernel
theorem dX5_init_1 : decode cX5_init 1 = .ok (.invokespecial 5, 3) := by decide +kernel
theorem dX5_init_4 : decode cX5_init 4 = .ok (.aload_n 0, 1) := by decide +kernel
theorem dX5_init_5 : decode cX5_init 5 = .ok (.new 11, 3) := by decide +kernel
theorem dX5_init_8 : decode cX5_init 8 = .ok (.dup, 1) := by decide +kernel
theorem dX5_init_9 : decode cX5_init 9 = .ok (.invokespecial 13, 3) := by decide +kernel
theorem dX5_init_12 : decode cX5_init 12 = .ok (.putfield 14, 3) := by decide +kernel
theorem dX5_init_15 : decode cX5_init 15 = .ok (.aload_n 0, 1) := by decide +kernel
theorem dX5_init_16 : decode cX5_init 16 = .ok (.new 1, 3) := by decide +kernel
theorem dX5_init_19 : decode cX5_init 19 = .ok (.dup, 1) := by decide +kernel
theorem dX5_init_20 : decode cX5_init 20 = .ok (.invokespecial 20, 3) := by decide +kernel
theorem dX5_init_23 : decode cX5_init 23 = .ok (.putfield 21, 3) := by decide +kernel
theorem dX5_init_26 : decode cX5_init 26 = .ok (.return_, 1) := by decide +kernel
theorem dX5_code_0 : decode cX5_code 0 = .ok (.aload_n 0, 1) := by decide +kernel
theorem dX5_code_1 : decode cX5_code 1 = .ok (.getfield 14, 3) := by decide +kernel
theorem dX5_code_4 : decode cX5_code 4 = .ok (.areturn, 1) := by decide +kernel
theorem dX5_readRule_0 : decode cX5_readRule 0 = .ok (.aload_n 0, 1) := by decide +kernel
theorem dX5_readRule_1 : decode cX5_readRule 1 = .ok (.aload_n 1, 1) := by decide +kernel
theorem dX5_readRule_2 : decode cX5_readRule 2 = .ok (.iconst 1, 1) := by decide +kernel
theorem dX5_readRule_3 : decode cX5_readRule 3 = .ok (.invokevirtual 25, 3) := by decide +kernel
theorem dX5_readRule_6 : decode cX5_readRule 6 = .ok (.aload_n 0, 1) := by decide +kernel
theorem dX5_readRule_7 : decode cX5_readRule 7 = .ok (.invokevirtual 29, 3) := by decide +kernel
theorem dX5_readRule_10 : decode cX5_readRule 10 = .ok (.ifCond .eq 29, 3) := by decide +kernel
theorem dX5_readRule_13 : decode cX5_readRule 13 = .ok (.aload_n 0, 1) := by decide +kernel
theorem dX5_readRule_14 : decode cX5_readRule 14 = .ok (.iconst 0, 1) := by decide +kernel
theorem dX5_readRule_15 : decode cX5_readRule 15 = .ok (.invokevirtual 33, 3) := by decide +kernel
theorem dX5_readRule_18 : decode cX5_readRule 18 = .ok (.ifCond .eq 21, 3) := by decide +kernel
theorem dX5_readRule_21 : decode cX5_readRule 21 = .ok (.aload_n 0, 1) := by decide +kernel
theorem dX5_readRule_22 : decode cX5_readRule 22 = .ok (.getfield 37, 3) := by decide +kernel
theorem dX5_readRule_25 : decode cX5_readRule 25 = .ok (.aload_n 0, 1) := by decide +kernel
theorem dX5_readRule_26 : decode cX5_readRule 26 = .ok (.getfield 21, 3) := by decide +kernel
theorem dX5_readRule_29 : decode cX5_readRule 29 = .ok (.invokevirtual 41, 3) := by decide +kernel
theorem dX5_readRule_32 : decode cX5_readRule 32 = .ok (.if_icmp .ne 7, 3) := by decide +kernel
theorem dX5_readRule_35 : decode cX5_readRule 35 = .ok (.iconst (-1), 1) := by decide +kernel
theorem dX5_readRule_36 : decode cX5_readRule 36 = .ok (.goto 7, 3) := by decide +kernel
theorem dX5_readRule_39 : decode cX5_readRule 39 = .ok (.aload_n 0, 1) := by decide +kernel
theorem dX5_readRule_40 : decode cX5_readRule 40 = .ok (.getfield 37, 3) := by decide +kernel
theorem dX5_readRule_43 : decode cX5_readRule 43 = .ok (.ireturn, 1) := by decide +kernel
theorem dX5_readQuestion_0 : decode cX5_readQuestion 0 = .ok (.aload_n 0, 1) := by decide +kernel
theorem dX5_readQuestion_1 : decode cX5_readQuestion 1 = .ok (.aload_n 1, 1) := by decide +kernel
theorem dX5_readQuestion_2 : decode cX5_readQuestion 2 = .ok (.iconst 0, 1) := by decide +kernel
theorem dX5_readQuestion_3 : decode cX5_readQuestion 3 = .ok (.invokevirtual 25, 3) := by decide +kernel
theorem dX5_readQuestion_6 : decode cX5_readQuestion 6 = .ok (.aload_n 0, 1) := by decide +kernel
theorem dX5_readQuestion_7 : decode cX5_readQuestion 7 = .ok (.iconst 0, 1) := by decide +kernel
theorem dX5_readQuestion_8 : decode cX5_readQuestion 8 = .ok (.invokevirtual 45, 3) := by decide +kernel
theorem dX5_readQuestion_11 : decode cX5_readQuestion 11 = .ok (.ifCond .eq 21, 3) := by decide +kernel
theorem dX5_readQuestion_14 : decode cX5_readQuestion 14 = .ok (.aload_n 0, 1) := by decide +kernel
theorem dX5_readQuestion_15 : decode cX5_readQuestion 15 = .ok (.getfield 37, 3) := by decide +kernel
theorem dX5_readQuestion_18 : decode cX5_readQuestion 18 = .ok (.aload_n 0, 1) := by decide +kernel
theorem dX5_readQuestion_19 : decode cX5_readQuestion 19 = .ok (.getfield 21, 3) := by decide +kernel
theorem dX5_readQuestion_22 : decode cX5_readQuestion 22 = .ok (.invokevirtual 41, 3) := by decide +kernel
theorem dX5_readQuestion_25 : decode cX5_readQuestion 25 = .ok (.if_icmp .ne 7, 3) := by decide +kernel
theorem dX5_readQuestion_28 : decode cX5_readQuestion 28 = .ok (.iconst (-1), 1) := by decide +kernel
theorem dX5_readQuestion_29 : decode cX5_readQuestion 29 = .ok (.goto 7, 3) := by decide +kernel
theorem dX5_readQuestion_32 : decode cX5_readQuestion 32 = .ok (.aload_n 0, 1) := by decide +kernel
theorem dX5_readQuestion_33 : decode cX5_readQuestion 33 = .ok (.getfield 37, 3) := by decide +kernel
theorem dX5_readQuestion_36 : decode cX5_readQuestion 36 = .ok (.ireturn, 1) := by decide +kernel
theorem dX5_startOn_0 : decode cX5_startOn 0 = .ok (.aload_n 0, 1) := by decide +kernel
theorem dX5_startOn_1 : decode cX5_startOn 1 = .ok (.aload_n 1, 1) := by decide +kernel
theorem dX5_startOn_2 : decode cX5_startOn 2 = .ok (.putfield 21, 3) := by decide +kernel
theorem dX5_startOn_5 : decode cX5_startOn 5 = .ok (.aload_n 0, 1) := by decide +kernel
theorem dX5_startOn_6 : decode cX5_startOn 6 = .ok (.iload_n 2, 1) := by decide +kernel
theorem dX5_startOn_7 : decode cX5_startOn 7 = .ok (.putfield 48, 3) := by decide +kernel
theorem dX5_startOn_10 : decode cX5_startOn 10 = .ok (.aload_n 0, 1) := by decide +kernel
theorem dX5_startOn_11 : decode cX5_startOn 11 = .ok (.iconst 0, 1) := by decide +kernel
theorem dX5_startOn_12 : decode cX5_startOn 12 = .ok (.putfield 37, 3) := by decide +kernel
theorem dX5_startOn_15 : decode cX5_startOn 15 = .ok (.aload_n 0, 1) := by decide +kernel
theorem dX5_startOn_16 : decode cX5_startOn 16 = .ok (.getfield 14, 3) := by decide +kernel
theorem dX5_startOn_19 : decode cX5_startOn 19 = .ok (.invokevirtual 52, 3) := by decide +kernel
theorem dX5_startOn_22 : decode cX5_startOn 22 = .ok (.return_, 1) := by decide +kernel
theorem dX5_takesStart_0 : decode cX5_takesStart 0 = .ok (.aload_n 0, 1) := by decide +kernel
theorem dX5_takesStart_1 : decode cX5_takesStart 1 = .ok (.getfield 21, 3) := by decide +kernel
theorem dX5_takesStart_4 : decode cX5_takesStart 4 = .ok (.aload_n 0, 1) := by decide +kernel
theorem dX5_takesStart_5 : decode cX5_takesStart 5 = .ok (.getfield 37, 3) := by decide +kernel
theorem dX5_takesStart_8 : decode cX5_takesStart 8 = .ok (.invokevirtual 55, 3) := by decide +kernel
theorem dX5_takesStart_11 : decode cX5_takesStart 11 = .ok (.lookupswitch 73 #[(68, 41), (70, 65), (76, 57), (78, 49)], 41) := by decide +kernel
theorem dX5_takesStart_52 : decode cX5_takesStart 52 = .ok (.aload_n 0, 1) := by decide +kernel
theorem dX5_takesStart_53 : decode cX5_takesStart 53 = .ok (.iconst 1, 1) := by decide +kernel
theorem dX5_takesStart_54 : decode cX5_takesStart 54 = .ok (.ldc 59, 2) := by decide +kernel
theorem dX5_takesStart_56 : decode cX5_takesStart 56 = .ok (.invokevirtual 61, 3) := by decide +kernel
theorem dX5_takesStart_59 : decode cX5_takesStart 59 = .ok (.ireturn, 1) := by decide +kernel
theorem dX5_takesStart_60 : decode cX5_takesStart 60 = .ok (.aload_n 0, 1) := by decide +kernel
theorem dX5_takesStart_61 : decode cX5_takesStart 61 = .ok (.iconst 2, 1) := by decide +kernel
theorem dX5_takesStart_62 : decode cX5_takesStart 62 = .ok (.ldc 65, 2) := by decide +kernel
theorem dX5_takesStart_64 : decode cX5_takesStart 64 = .ok (.invokevirtual 61, 3) := by decide +kernel
theorem dX5_takesStart_67 : decode cX5_takesStart 67 = .ok (.ireturn, 1) := by decide +kernel
theorem dX5_takesStart_68 : decode cX5_takesStart 68 = .ok (.aload_n 0, 1) := by decide +kernel
theorem dX5_takesStart_69 : decode cX5_takesStart 69 = .ok (.iconst 3, 1) := by decide +kernel
theorem dX5_takesStart_70 : decode cX5_takesStart 70 = .ok (.ldc 67, 2) := by decide +kernel
theorem dX5_takesStart_72 : decode cX5_takesStart 72 = .ok (.invokevirtual 61, 3) := by decide +kernel
theorem dX5_takesStart_75 : decode cX5_takesStart 75 = .ok (.ireturn, 1) := by decide +kernel
theorem dX5_takesStart_76 : decode cX5_takesStart 76 = .ok (.aload_n 0, 1) := by decide +kernel
theorem dX5_takesStart_77 : decode cX5_takesStart 77 = .ok (.iconst 4, 1) := by decide +kernel
theorem dX5_takesStart_78 : decode cX5_takesStart 78 = .ok (.ldc 69, 2) := by decide +kernel
theorem dX5_takesStart_80 : decode cX5_takesStart 80 = .ok (.invokevirtual 61, 3) := by decide +kernel
theorem dX5_takesStart_83 : decode cX5_takesStart 83 = .ok (.ireturn, 1) := by decide +kernel
theorem dX5_takesStart_84 : decode cX5_takesStart 84 = .ok (.iconst 0, 1) := by decide +kernel
theorem dX5_takesStart_85 : decode cX5_takesStart 85 = .ok (.ireturn, 1) := by decide +kernel
theorem dX5_takesSteps_0 : decode cX5_takesSteps 0 = .ok (.iload_n 1, 1) := by decide +kernel
theorem dX5_takesSteps_1 : decode cX5_takesSteps 1 = .ok (.bipush 41, 2) := by decide +kernel
theorem dX5_takesSteps_3 : decode cX5_takesSteps 3 = .ok (.if_icmp .gt 7, 3) := by decide +kernel
theorem dX5_takesSteps_6 : decode cX5_takesSteps 6 = .ok (.iconst 1, 1) := by decide +kernel
theorem dX5_takesSteps_7 : decode cX5_takesSteps 7 = .ok (.goto 4, 3) := by decide +kernel
theorem dX5_takesSteps_10 : decode cX5_takesSteps 10 = .ok (.iconst 0, 1) := by decide +kernel
theorem dX5_takesSteps_11 : decode cX5_takesSteps 11 = .ok (.istore_n 2, 1) := by decide +kernel
theorem dX5_takesSteps_12 : decode cX5_takesSteps 12 = .ok (.iconst 0, 1) := by decide +kernel
theorem dX5_takesSteps_13 : decode cX5_takesSteps 13 = .ok (.istore_n 3, 1) := by decide +kernel
theorem dX5_takesSteps_14 : decode cX5_takesSteps 14 = .ok (.iload_n 3, 1) := by decide +kernel
theorem dX5_takesSteps_15 : decode cX5_takesSteps 15 = .ok (.bipush 40, 2) := by decide +kernel
theorem dX5_takesSteps_17 : decode cX5_takesSteps 17 = .ok (.if_icmp .ge 218, 3) := by decide +kernel
theorem dX5_takesSteps_20 : decode cX5_takesSteps 20 = .ok (.iload_n 2, 1) := by decide +kernel
theorem dX5_takesSteps_21 : decode cX5_takesSteps 21 = .ok (.ifCond .eq 214, 3) := by decide +kernel
theorem dX5_takesSteps_24 : decode cX5_takesSteps 24 = .ok (.aload_n 0, 1) := by decide +kernel
theorem dX5_takesSteps_25 : decode cX5_takesSteps 25 = .ok (.getfield 21, 3) := by decide +kernel
theorem dX5_takesSteps_28 : decode cX5_takesSteps 28 = .ok (.aload_n 0, 1) := by decide +kernel
theorem dX5_takesSteps_29 : decode cX5_takesSteps 29 = .ok (.getfield 37, 3) := by decide +kernel
theorem dX5_takesSteps_32 : decode cX5_takesSteps 32 = .ok (.invokevirtual 55, 3) := by decide +kernel
theorem dX5_takesSteps_35 : decode cX5_takesSteps 35 = .ok (.lookupswitch 192 #[(43, 89), (45, 89), (60, 109), (62, 97), (63, 181), (79, 145), (81, 157), (88, 169), (91, 133), (93, 121)], 89) := by decide +kernel
theorem dX5_takesSteps_124 : decode cX5_takesSteps 124 = .ok (.aload_n 0, 1) := by decide +kernel
theorem dX5_takesSteps_125 : decode cX5_takesSteps 125 = .ok (.invokevirtual 71, 3) := by decide +kernel
theorem dX5_takesSteps_128 : decode cX5_takesSteps 128 = .ok (.istore_n 2, 1) := by decide +kernel
theorem dX5_takesSteps_129 : decode cX5_takesSteps 129 = .ok (.goto 100, 3) := by decide +kernel
theorem dX5_takesSteps_132 : decode cX5_takesSteps 132 = .ok (.aload_n 0, 1) := by decide +kernel
theorem dX5_takesSteps_133 : decode cX5_takesSteps 133 = .ok (.bipush 6, 2) := by decide +kernel
theorem dX5_takesSteps_135 : decode cX5_takesSteps 135 = .ok (.ldc 74, 2) := by decide +kernel
theorem dX5_takesSteps_137 : decode cX5_takesSteps 137 = .ok (.invokevirtual 61, 3) := by decide +kernel
theorem dX5_takesSteps_140 : decode cX5_takesSteps 140 = .ok (.istore_n 2, 1) := by decide +kernel
theorem dX5_takesSteps_141 : decode cX5_takesSteps 141 = .ok (.goto 88, 3) := by decide +kernel
theorem dX5_takesSteps_144 : decode cX5_takesSteps 144 = .ok (.aload_n 0, 1) := by decide +kernel
theorem dX5_takesSteps_145 : decode cX5_takesSteps 145 = .ok (.bipush 7, 2) := by decide +kernel
theorem dX5_takesSteps_147 : decode cX5_takesSteps 147 = .ok (.ldc 74, 2) := by decide +kernel
theorem dX5_takesSteps_149 : decode cX5_takesSteps 149 = .ok (.invokevirtual 61, 3) := by decide +kernel
theorem dX5_takesSteps_152 : decode cX5_takesSteps 152 = .ok (.istore_n 2, 1) := by decide +kernel
theorem dX5_takesSteps_153 : decode cX5_takesSteps 153 = .ok (.goto 76, 3) := by decide +kernel
theorem dX5_takesSteps_156 : decode cX5_takesSteps 156 = .ok (.aload_n 0, 1) := by decide +kernel
theorem dX5_takesSteps_157 : decode cX5_takesSteps 157 = .ok (.bipush 8, 2) := by decide +kernel
theorem dX5_takesSteps_159 : decode cX5_takesSteps 159 = .ok (.ldc 74, 2) := by decide +kernel
theorem dX5_takesSteps_161 : decode cX5_takesSteps 161 = .ok (.invokevirtual 61, 3) := by decide +kernel
theorem dX5_takesSteps_164 : decode cX5_takesSteps 164 = .ok (.istore_n 2, 1) := by decide +kernel
theorem dX5_takesSteps_165 : decode cX5_takesSteps 165 = .ok (.goto 64, 3) := by decide +kernel
theorem dX5_takesSteps_168 : decode cX5_takesSteps 168 = .ok (.aload_n 0, 1) := by decide +kernel
theorem dX5_takesSteps_169 : decode cX5_takesSteps 169 = .ok (.bipush 9, 2) := by decide +kernel
theorem dX5_takesSteps_171 : decode cX5_takesSteps 171 = .ok (.ldc 74, 2) := by decide +kernel
theorem dX5_takesSteps_173 : decode cX5_takesSteps 173 = .ok (.invokevirtual 61, 3) := by decide +kernel
theorem dX5_takesSteps_176 : decode cX5_takesSteps 176 = .ok (.istore_n 2, 1) := by decide +kernel
theorem dX5_takesSteps_177 : decode cX5_takesSteps 177 = .ok (.goto 52, 3) := by decide +kernel
theorem dX5_takesSteps_180 : decode cX5_takesSteps 180 = .ok (.aload_n 0, 1) := by decide +kernel
theorem dX5_takesSteps_181 : decode cX5_takesSteps 181 = .ok (.bipush 10, 2) := by decide +kernel
theorem dX5_takesSteps_183 : decode cX5_takesSteps 183 = .ok (.ldc 76, 2) := by decide +kernel
theorem dX5_takesSteps_185 : decode cX5_takesSteps 185 = .ok (.invokevirtual 61, 3) := by decide +kernel
theorem dX5_takesSteps_188 : decode cX5_takesSteps 188 = .ok (.istore_n 2, 1) := by decide +kernel
theorem dX5_takesSteps_189 : decode cX5_takesSteps 189 = .ok (.goto 40, 3) := by decide +kernel
theorem dX5_takesSteps_192 : decode cX5_takesSteps 192 = .ok (.aload_n 0, 1) := by decide +kernel
theorem dX5_takesSteps_193 : decode cX5_takesSteps 193 = .ok (.bipush 11, 2) := by decide +kernel
theorem dX5_takesSteps_195 : decode cX5_takesSteps 195 = .ok (.ldc 76, 2) := by decide +kernel
theorem dX5_takesSteps_197 : decode cX5_takesSteps 197 = .ok (.invokevirtual 61, 3) := by decide +kernel
theorem dX5_takesSteps_200 : decode cX5_takesSteps 200 = .ok (.istore_n 2, 1) := by decide +kernel
theorem dX5_takesSteps_201 : decode cX5_takesSteps 201 = .ok (.goto 28, 3) := by decide +kernel
theorem dX5_takesSteps_204 : decode cX5_takesSteps 204 = .ok (.aload_n 0, 1) := by decide +kernel
theorem dX5_takesSteps_205 : decode cX5_takesSteps 205 = .ok (.bipush 12, 2) := by decide +kernel
theorem dX5_takesSteps_207 : decode cX5_takesSteps 207 = .ok (.ldc 76, 2) := by decide +kernel
theorem dX5_takesSteps_209 : decode cX5_takesSteps 209 = .ok (.invokevirtual 61, 3) := by decide +kernel
theorem dX5_takesSteps_212 : decode cX5_takesSteps 212 = .ok (.istore_n 2, 1) := by decide +kernel
theorem dX5_takesSteps_213 : decode cX5_takesSteps 213 = .ok (.goto 16, 3) := by decide +kernel
theorem dX5_takesSteps_216 : decode cX5_takesSteps 216 = .ok (.aload_n 0, 1) := by decide +kernel
theorem dX5_takesSteps_217 : decode cX5_takesSteps 217 = .ok (.iload_n 1, 1) := by decide +kernel
theorem dX5_takesSteps_218 : decode cX5_takesSteps 218 = .ok (.iconst 1, 1) := by decide +kernel
theorem dX5_takesSteps_219 : decode cX5_takesSteps 219 = .ok (.iadd, 1) := by decide +kernel
theorem dX5_takesSteps_220 : decode cX5_takesSteps 220 = .ok (.invokevirtual 78, 3) := by decide +kernel
theorem dX5_takesSteps_223 : decode cX5_takesSteps 223 = .ok (.istore_n 2, 1) := by decide +kernel
theorem dX5_takesSteps_224 : decode cX5_takesSteps 224 = .ok (.goto 5, 3) := by decide +kernel
theorem dX5_takesSteps_227 : decode cX5_takesSteps 227 = .ok (.iconst 1, 1) := by decide +kernel
theorem dX5_takesSteps_228 : decode cX5_takesSteps 228 = .ok (.ireturn, 1) := by decide +kernel
theorem dX5_takesSteps_229 : decode cX5_takesSteps 229 = .ok (.iinc 3 1, 3) := by decide +kernel
theorem dX5_takesSteps_232 : decode cX5_takesSteps 232 = .ok (.goto (-218), 3) := by decide +kernel
theorem dX5_takesSteps_235 : decode cX5_takesSteps 235 = .ok (.iload_n 2, 1) := by decide +kernel
theorem dX5_takesSteps_236 : decode cX5_takesSteps 236 = .ok (.ireturn, 1) := by decide +kernel
theorem dX5_takesDays_0 : decode cX5_takesDays 0 = .ok (.iconst 0, 1) := by decide +kernel
theorem dX5_takesDays_1 : decode cX5_takesDays 1 = .ok (.istore_n 1, 1) := by decide +kernel
theorem dX5_takesDays_2 : decode cX5_takesDays 2 = .ok (.iconst 0, 1) := by decide +kernel
theorem dX5_takesDays_3 : decode cX5_takesDays 3 = .ok (.istore_n 2, 1) := by decide +kernel
theorem dX5_takesDays_4 : decode cX5_takesDays 4 = .ok (.iload_n 2, 1) := by decide +kernel
theorem dX5_takesDays_5 : decode cX5_takesDays 5 = .ok (.bipush 40, 2) := by decide +kernel
theorem dX5_takesDays_7 : decode cX5_takesDays 7 = .ok (.if_icmp .ge 76, 3) := by decide +kernel
theorem dX5_takesDays_10 : decode cX5_takesDays 10 = .ok (.aload_n 0, 1) := by decide +kernel
theorem dX5_takesDays_11 : decode cX5_takesDays 11 = .ok (.getfield 21, 3) := by decide +kernel
theorem dX5_takesDays_14 : decode cX5_takesDays 14 = .ok (.aload_n 0, 1) := by decide +kernel
theorem dX5_takesDays_15 : decode cX5_takesDays 15 = .ok (.getfield 37, 3) := by decide +kernel
theorem dX5_takesDays_18 : decode cX5_takesDays 18 = .ok (.invokevirtual 55, 3) := by decide +kernel
theorem dX5_takesDays_21 : decode cX5_takesDays 21 = .ok (.istore_n 3, 1) := by decide +kernel
theorem dX5_takesDays_22 : decode cX5_takesDays 22 = .ok (.iload_n 3, 1) := by decide +kernel
theorem dX5_takesDays_23 : decode cX5_takesDays 23 = .ok (.bipush 43, 2) := by decide +kernel
theorem dX5_takesDays_25 : decode cX5_takesDays 25 = .ok (.if_icmp .eq 12, 3) := by decide +kernel
theorem dX5_takesDays_28 : decode cX5_takesDays 28 = .ok (.iload_n 3, 1) := by decide +kernel
theorem dX5_takesDays_29 : decode cX5_takesDays 29 = .ok (.bipush 45, 2) := by decide +kernel
theorem dX5_takesDays_31 : decode cX5_takesDays 31 = .ok (.if_icmp .eq 6, 3) := by decide +kernel
theorem dX5_takesDays_34 : decode cX5_takesDays 34 = .ok (.goto 49, 3) := by decide +kernel
theorem dX5_takesDays_37 : decode cX5_takesDays 37 = .ok (.aload_n 0, 1) := by decide +kernel
theorem dX5_takesDays_38 : decode cX5_takesDays 38 = .ok (.dup, 1) := by decide +kernel
theorem dX5_takesDays_39 : decode cX5_takesDays 39 = .ok (.getfield 37, 3) := by decide +kernel
theorem dX5_takesDays_42 : decode cX5_takesDays 42 = .ok (.iconst 1, 1) := by decide +kernel
theorem dX5_takesDays_43 : decode cX5_takesDays 43 = .ok (.iadd, 1) := by decide +kernel
theorem dX5_takesDays_44 : decode cX5_takesDays 44 = .ok (.putfield 37, 3) := by decide +kernel
theorem dX5_takesDays_47 : decode cX5_takesDays 47 = .ok (.aload_n 0, 1) := by decide +kernel
theorem dX5_takesDays_48 : decode cX5_takesDays 48 = .ok (.invokevirtual 81, 3) := by decide +kernel
theorem dX5_takesDays_51 : decode cX5_takesDays 51 = .ok (.ifCond .ne 5, 3) := by decide +kernel
theorem dX5_takesDays_54 : decode cX5_takesDays 54 = .ok (.iconst 0, 1) := by decide +kernel
theorem dX5_takesDays_55 : decode cX5_takesDays 55 = .ok (.ireturn, 1) := by decide +kernel
theorem dX5_takesDays_56 : decode cX5_takesDays 56 = .ok (.iload_n 1, 1) := by decide +kernel
theorem dX5_takesDays_57 : decode cX5_takesDays 57 = .ok (.iload_n 3, 1) := by decide +kernel
theorem dX5_takesDays_58 : decode cX5_takesDays 58 = .ok (.bipush 43, 2) := by decide +kernel
theorem dX5_takesDays_60 : decode cX5_takesDays 60 = .ok (.if_icmp .ne 10, 3) := by decide +kernel
theorem dX5_takesDays_63 : decode cX5_takesDays 63 = .ok (.aload_n 0, 1) := by decide +kernel
theorem dX5_takesDays_64 : decode cX5_takesDays 64 = .ok (.getfield 84, 3) := by decide +kernel
theorem dX5_takesDays_67 : decode cX5_takesDays 67 = .ok (.goto 8, 3) := by decide +kernel
theorem dX5_takesDays_70 : decode cX5_takesDays 70 = .ok (.aload_n 0, 1) := by decide +kernel
theorem dX5_takesDays_71 : decode cX5_takesDays 71 = .ok (.getfield 84, 3) := by decide +kernel
theorem dX5_takesDays_74 : decode cX5_takesDays 74 = .ok (.ineg, 1) := by decide +kernel
theorem dX5_takesDays_75 : decode cX5_takesDays 75 = .ok (.iadd, 1) := by decide +kernel
theorem dX5_takesDays_76 : decode cX5_takesDays 76 = .ok (.istore_n 1, 1) := by decide +kernel
theorem dX5_takesDays_77 : decode cX5_takesDays 77 = .ok (.iinc 2 1, 3) := by decide +kernel
theorem dX5_takesDays_80 : decode cX5_takesDays 80 = .ok (.goto (-76), 3) := by decide +kernel
theorem dX5_takesDays_83 : decode cX5_takesDays 83 = .ok (.iload_n 1, 1) := by decide +kernel
theorem dX5_takesDays_84 : decode cX5_takesDays 84 = .ok (.ifCond .eq 19, 3) := by decide +kernel
theorem dX5_takesDays_87 : decode cX5_takesDays 87 = .ok (.aload_n 0, 1) := by decide +kernel
theorem dX5_takesDays_88 : decode cX5_takesDays 88 = .ok (.getfield 14, 3) := by decide +kernel
theorem dX5_takesDays_91 : decode cX5_takesDays 91 = .ok (.iconst 5, 1) := by decide +kernel
theorem dX5_takesDays_92 : decode cX5_takesDays 92 = .ok (.sipush 5000, 3) := by decide +kernel
theorem dX5_takesDays_95 : decode cX5_takesDays 95 = .ok (.iload_n 1, 1) := by decide +kernel
theorem dX5_takesDays_96 : decode cX5_takesDays 96 = .ok (.iadd, 1) := by decide +kernel
theorem dX5_takesDays_97 : decode cX5_takesDays 97 = .ok (.invokevirtual 87, 3) := by decide +kernel
theorem dX5_takesDays_100 : decode cX5_takesDays 100 = .ok (.ifCond .eq 7, 3) := by decide +kernel
theorem dX5_takesDays_103 : decode cX5_takesDays 103 = .ok (.iconst 1, 1) := by decide +kernel
theorem dX5_takesDays_104 : decode cX5_takesDays 104 = .ok (.goto 4, 3) := by decide +kernel
theorem dX5_takesDays_107 : decode cX5_takesDays 107 = .ok (.iconst 0, 1) := by decide +kernel
theorem dX5_takesDays_108 : decode cX5_takesDays 108 = .ok (.ireturn, 1) := by decide +kernel
theorem dX5_takesDayCount_0 : decode cX5_takesDayCount 0 = .ok (.aload_n 0, 1) := by decide +kernel
theorem dX5_takesDayCount_1 : decode cX5_takesDayCount 1 = .ok (.iconst 0, 1) := by decide +kernel
theorem dX5_takesDayCount_2 : decode cX5_takesDayCount 2 = .ok (.bipush 9, 2) := by decide +kernel
theorem dX5_takesDayCount_4 : decode cX5_takesDayCount 4 = .ok (.invokevirtual 91, 3) := by decide +kernel
theorem dX5_takesDayCount_7 : decode cX5_takesDayCount 7 = .ok (.ifCond .ne 5, 3) := by decide +kernel
theorem dX5_takesDayCount_10 : decode cX5_takesDayCount 10 = .ok (.iconst 0, 1) := by decide +kernel
theorem dX5_takesDayCount_11 : decode cX5_takesDayCount 11 = .ok (.ireturn, 1) := by decide +kernel
theorem dX5_takesDayCount_12 : decode cX5_takesDayCount 12 = .ok (.aload_n 0, 1) := by decide +kernel
theorem dX5_takesDayCount_13 : decode cX5_takesDayCount 13 = .ok (.getfield 84, 3) := by decide +kernel
theorem dX5_takesDayCount_16 : decode cX5_takesDayCount 16 = .ok (.istore_n 1, 1) := by decide +kernel
theorem dX5_takesDayCount_17 : decode cX5_takesDayCount 17 = .ok (.iconst 0, 1) := by decide +kernel
theorem dX5_takesDayCount_18 : decode cX5_takesDayCount 18 = .ok (.istore_n 2, 1) := by decide +kernel
theorem dX5_takesDayCount_19 : decode cX5_takesDayCount 19 = .ok (.iload_n 2, 1) := by decide +kernel
theorem dX5_takesDayCount_20 : decode cX5_takesDayCount 20 = .ok (.iconst 2, 1) := by decide +kernel
theorem dX5_takesDayCount_21 : decode cX5_takesDayCount 21 = .ok (.if_icmp .ge 45, 3) := by decide +kernel
theorem dX5_takesDayCount_24 : decode cX5_takesDayCount 24 = .ok (.sipush 366, 3) := by decide +kernel
theorem dX5_takesDayCount_27 : decode cX5_takesDayCount 27 = .ok (.bipush 10, 2) := by decide +kernel
theorem dX5_takesDayCount_29 : decode cX5_takesDayCount 29 = .ok (.iload_n 1, 1) := by decide +kernel
theorem dX5_takesDayCount_30 : decode cX5_takesDayCount 30 = .ok (.imul, 1) := by decide +kernel
theorem dX5_takesDayCount_31 : decode cX5_takesDayCount 31 = .ok (.isub, 1) := by decide +kernel
theorem dX5_takesDayCount_32 : decode cX5_takesDayCount 32 = .ok (.bipush 9, 2) := by decide +kernel
theorem dX5_takesDayCount_34 : decode cX5_takesDayCount 34 = .ok (.invokestatic 94, 3) := by decide +kernel
theorem dX5_takesDayCount_37 : decode cX5_takesDayCount 37 = .ok (.istore_n 3, 1) := by decide +kernel
theorem dX5_takesDayCount_38 : decode cX5_takesDayCount 38 = .ok (.aload_n 0, 1) := by decide +kernel
theorem dX5_takesDayCount_39 : decode cX5_takesDayCount 39 = .ok (.iconst 0, 1) := by decide +kernel
theorem dX5_takesDayCount_40 : decode cX5_takesDayCount 40 = .ok (.iload_n 3, 1) := by decide +kernel
theorem dX5_takesDayCount_41 : decode cX5_takesDayCount 41 = .ok (.invokevirtual 91, 3) := by decide +kernel
theorem dX5_takesDayCount_44 : decode cX5_takesDayCount 44 = .ok (.ifCond .ne 6, 3) := by decide +kernel
theorem dX5_takesDayCount_47 : decode cX5_takesDayCount 47 = .ok (.goto 19, 3) := by decide +kernel
theorem dX5_takesDayCount_50 : decode cX5_takesDayCount 50 = .ok (.bipush 10, 2) := by decide +kernel
theorem dX5_takesDayCount_52 : decode cX5_takesDayCount 52 = .ok (.iload_n 1, 1) := by decide +kernel
theorem dX5_takesDayCount_53 : decode cX5_takesDayCount 53 = .ok (.imul, 1) := by decide +kernel
theorem dX5_takesDayCount_54 : decode cX5_takesDayCount 54 = .ok (.aload_n 0, 1) := by decide +kernel
theorem dX5_takesDayCount_55 : decode cX5_takesDayCount 55 = .ok (.getfield 84, 3) := by decide +kernel
theorem dX5_takesDayCount_58 : decode cX5_takesDayCount 58 = .ok (.iadd, 1) := by decide +kernel
theorem dX5_takesDayCount_59 : decode cX5_takesDayCount 59 = .ok (.istore_n 1, 1) := by decide +kernel
theorem dX5_takesDayCount_60 : decode cX5_takesDayCount 60 = .ok (.iinc 2 1, 3) := by decide +kernel
theorem dX5_takesDayCount_63 : decode cX5_takesDayCount 63 = .ok (.goto (-44), 3) := by decide +kernel
theorem dX5_takesDayCount_66 : decode cX5_takesDayCount 66 = .ok (.aload_n 0, 1) := by decide +kernel
theorem dX5_takesDayCount_67 : decode cX5_takesDayCount 67 = .ok (.iload_n 1, 1) := by decide +kernel
theorem dX5_takesDayCount_68 : decode cX5_takesDayCount 68 = .ok (.putfield 84, 3) := by decide +kernel
theorem dX5_takesDayCount_71 : decode cX5_takesDayCount 71 = .ok (.iconst 1, 1) := by decide +kernel
theorem dX5_takesDayCount_72 : decode cX5_takesDayCount 72 = .ok (.ireturn, 1) := by decide +kernel
theorem dX5_takesBranch_0 : decode cX5_takesBranch 0 = .ok (.aload_n 0, 1) := by decide +kernel
theorem dX5_takesBranch_1 : decode cX5_takesBranch 1 = .ok (.dup, 1) := by decide +kernel
theorem dX5_takesBranch_2 : decode cX5_takesBranch 2 = .ok (.getfield 37, 3) := by decide +kernel
theorem dX5_takesBranch_5 : decode cX5_takesBranch 5 = .ok (.iconst 1, 1) := by decide +kernel
theorem dX5_takesBranch_6 : decode cX5_takesBranch 6 = .ok (.iadd, 1) := by decide +kernel
theorem dX5_takesBranch_7 : decode cX5_takesBranch 7 = .ok (.putfield 37, 3) := by decide +kernel
theorem dX5_takesBranch_10 : decode cX5_takesBranch 10 = .ok (.aload_n 0, 1) := by decide +kernel
theorem dX5_takesBranch_11 : decode cX5_takesBranch 11 = .ok (.iload_n 1, 1) := by decide +kernel
theorem dX5_takesBranch_12 : decode cX5_takesBranch 12 = .ok (.invokevirtual 45, 3) := by decide +kernel
theorem dX5_takesBranch_15 : decode cX5_takesBranch 15 = .ok (.ifCond .ne 5, 3) := by decide +kernel
theorem dX5_takesBranch_18 : decode cX5_takesBranch 18 = .ok (.iconst 0, 1) := by decide +kernel
theorem dX5_takesBranch_19 : decode cX5_takesBranch 19 = .ok (.ireturn, 1) := by decide +kernel
theorem dX5_takesBranch_20 : decode cX5_takesBranch 20 = .ok (.aload_n 0, 1) := by decide +kernel
theorem dX5_takesBranch_21 : decode cX5_takesBranch 21 = .ok (.getfield 14, 3) := by decide +kernel
theorem dX5_takesBranch_24 : decode cX5_takesBranch 24 = .ok (.invokevirtual 100, 3) := by decide +kernel
theorem dX5_takesBranch_27 : decode cX5_takesBranch 27 = .ok (.istore_n 2, 1) := by decide +kernel
theorem dX5_takesBranch_28 : decode cX5_takesBranch 28 = .ok (.aload_n 0, 1) := by decide +kernel
theorem dX5_takesBranch_29 : decode cX5_takesBranch 29 = .ok (.getfield 14, 3) := by decide +kernel
theorem dX5_takesBranch_32 : decode cX5_takesBranch 32 = .ok (.bipush 19, 2) := by decide +kernel
theorem dX5_takesBranch_34 : decode cX5_takesBranch 34 = .ok (.iconst 0, 1) := by decide +kernel
theorem dX5_takesBranch_35 : decode cX5_takesBranch 35 = .ok (.invokevirtual 87, 3) := by decide +kernel
theorem dX5_takesBranch_38 : decode cX5_takesBranch 38 = .ok (.ifCond .eq 29, 3) := by decide +kernel
theorem dX5_takesBranch_41 : decode cX5_takesBranch 41 = .ok (.aload_n 0, 1) := by decide +kernel
theorem dX5_takesBranch_42 : decode cX5_takesBranch 42 = .ok (.bipush 123, 2) := by decide +kernel
theorem dX5_takesBranch_44 : decode cX5_takesBranch 44 = .ok (.invokevirtual 103, 3) := by decide +kernel
theorem dX5_takesBranch_47 : decode cX5_takesBranch 47 = .ok (.ifCond .eq 20, 3) := by decide +kernel
theorem dX5_takesBranch_50 : decode cX5_takesBranch 50 = .ok (.aload_n 0, 1) := by decide +kernel
theorem dX5_takesBranch_51 : decode cX5_takesBranch 51 = .ok (.iload_n 1, 1) := by decide +kernel
theorem dX5_takesBranch_52 : decode cX5_takesBranch 52 = .ok (.invokevirtual 33, 3) := by decide +kernel
theorem dX5_takesBranch_55 : decode cX5_takesBranch 55 = .ok (.ifCond .eq 12, 3) := by decide +kernel
theorem dX5_takesBranch_58 : decode cX5_takesBranch 58 = .ok (.aload_n 0, 1) := by decide +kernel
theorem dX5_takesBranch_59 : decode cX5_takesBranch 59 = .ok (.bipush 125, 2) := by decide +kernel
theorem dX5_takesBranch_61 : decode cX5_takesBranch 61 = .ok (.invokevirtual 103, 3) := by decide +kernel
theorem dX5_takesBranch_64 : decode cX5_takesBranch 64 = .ok (.ifCond .ne 5, 3) := by decide +kernel
theorem dX5_takesBranch_67 : decode cX5_takesBranch 67 = .ok (.iconst 0, 1) := by decide +kernel
theorem dX5_takesBranch_68 : decode cX5_takesBranch 68 = .ok (.ireturn, 1) := by decide +kernel
theorem dX5_takesBranch_69 : decode cX5_takesBranch 69 = .ok (.aload_n 0, 1) := by decide +kernel
theorem dX5_takesBranch_70 : decode cX5_takesBranch 70 = .ok (.bipush 123, 2) := by decide +kernel
theorem dX5_takesBranch_72 : decode cX5_takesBranch 72 = .ok (.invokevirtual 103, 3) := by decide +kernel
theorem dX5_takesBranch_75 : decode cX5_takesBranch 75 = .ok (.ifCond .ne 12, 3) := by decide +kernel
theorem dX5_takesBranch_78 : decode cX5_takesBranch 78 = .ok (.aload_n 0, 1) := by decide +kernel
theorem dX5_takesBranch_79 : decode cX5_takesBranch 79 = .ok (.getfield 14, 3) := by decide +kernel
theorem dX5_takesBranch_82 : decode cX5_takesBranch 82 = .ok (.iload_n 2, 1) := by decide +kernel
theorem dX5_takesBranch_83 : decode cX5_takesBranch 83 = .ok (.invokevirtual 107, 3) := by decide +kernel
theorem dX5_takesBranch_86 : decode cX5_takesBranch 86 = .ok (.ireturn, 1) := by decide +kernel
theorem dX5_takesBranch_87 : decode cX5_takesBranch 87 = .ok (.aload_n 0, 1) := by decide +kernel
theorem dX5_takesBranch_88 : decode cX5_takesBranch 88 = .ok (.getfield 14, 3) := by decide +kernel
theorem dX5_takesBranch_91 : decode cX5_takesBranch 91 = .ok (.invokevirtual 100, 3) := by decide +kernel
theorem dX5_takesBranch_94 : decode cX5_takesBranch 94 = .ok (.istore_n 3, 1) := by decide +kernel
theorem dX5_takesBranch_95 : decode cX5_takesBranch 95 = .ok (.aload_n 0, 1) := by decide +kernel
theorem dX5_takesBranch_96 : decode cX5_takesBranch 96 = .ok (.getfield 14, 3) := by decide +kernel
theorem dX5_takesBranch_99 : decode cX5_takesBranch 99 = .ok (.bipush 18, 2) := by decide +kernel
theorem dX5_takesBranch_101 : decode cX5_takesBranch 101 = .ok (.iconst 0, 1) := by decide +kernel
theorem dX5_takesBranch_102 : decode cX5_takesBranch 102 = .ok (.invokevirtual 87, 3) := by decide +kernel
theorem dX5_takesBranch_105 : decode cX5_takesBranch 105 = .ok (.ifCond .eq 46, 3) := by decide +kernel
theorem dX5_takesBranch_108 : decode cX5_takesBranch 108 = .ok (.aload_n 0, 1) := by decide +kernel
theorem dX5_takesBranch_109 : decode cX5_takesBranch 109 = .ok (.getfield 14, 3) := by decide +kernel
theorem dX5_takesBranch_112 : decode cX5_takesBranch 112 = .ok (.iload_n 2, 1) := by decide +kernel
theorem dX5_takesBranch_113 : decode cX5_takesBranch 113 = .ok (.invokevirtual 107, 3) := by decide +kernel
theorem dX5_takesBranch_116 : decode cX5_takesBranch 116 = .ok (.ifCond .eq 35, 3) := by decide +kernel
theorem dX5_takesBranch_119 : decode cX5_takesBranch 119 = .ok (.aload_n 0, 1) := by decide +kernel
theorem dX5_takesBranch_120 : decode cX5_takesBranch 120 = .ok (.iload_n 1, 1) := by decide +kernel
theorem dX5_takesBranch_121 : decode cX5_takesBranch 121 = .ok (.invokevirtual 33, 3) := by decide +kernel
theorem dX5_takesBranch_124 : decode cX5_takesBranch 124 = .ok (.ifCond .eq 27, 3) := by decide +kernel
theorem dX5_takesBranch_127 : decode cX5_takesBranch 127 = .ok (.aload_n 0, 1) := by decide +kernel
theorem dX5_takesBranch_128 : decode cX5_takesBranch 128 = .ok (.bipush 125, 2) := by decide +kernel
theorem dX5_takesBranch_130 : decode cX5_takesBranch 130 = .ok (.invokevirtual 103, 3) := by decide +kernel
theorem dX5_takesBranch_133 : decode cX5_takesBranch 133 = .ok (.ifCond .eq 18, 3) := by decide +kernel
theorem dX5_takesBranch_136 : decode cX5_takesBranch 136 = .ok (.aload_n 0, 1) := by decide +kernel
theorem dX5_takesBranch_137 : decode cX5_takesBranch 137 = .ok (.getfield 14, 3) := by decide +kernel
theorem dX5_takesBranch_140 : decode cX5_takesBranch 140 = .ok (.iload_n 3, 1) := by decide +kernel
theorem dX5_takesBranch_141 : decode cX5_takesBranch 141 = .ok (.invokevirtual 107, 3) := by decide +kernel
theorem dX5_takesBranch_144 : decode cX5_takesBranch 144 = .ok (.ifCond .eq 7, 3) := by decide +kernel
theorem dX5_takesBranch_147 : decode cX5_takesBranch 147 = .ok (.iconst 1, 1) := by decide +kernel
theorem dX5_takesBranch_148 : decode cX5_takesBranch 148 = .ok (.goto 4, 3) := by decide +kernel
theorem dX5_takesBranch_151 : decode cX5_takesBranch 151 = .ok (.iconst 0, 1) := by decide +kernel
theorem dX5_takesBranch_152 : decode cX5_takesBranch 152 = .ok (.ireturn, 1) := by decide +kernel
theorem dX5_takesLogic_0 : decode cX5_takesLogic 0 = .ok (.iload_n 1, 1) := by decide +kernel
theorem dX5_takesLogic_1 : decode cX5_takesLogic 1 = .ok (.bipush 41, 2) := by decide +kernel
theorem dX5_takesLogic_3 : decode cX5_takesLogic 3 = .ok (.if_icmp .le 5, 3) := by decide +kernel
theorem dX5_takesLogic_6 : decode cX5_takesLogic 6 = .ok (.iconst 0, 1) := by decide +kernel
theorem dX5_takesLogic_7 : decode cX5_takesLogic 7 = .ok (.ireturn, 1) := by decide +kernel
theorem dX5_takesLogic_8 : decode cX5_takesLogic 8 = .ok (.aload_n 0, 1) := by decide +kernel
theorem dX5_takesLogic_9 : decode cX5_takesLogic 9 = .ok (.getfield 21, 3) := by decide +kernel
theorem dX5_takesLogic_12 : decode cX5_takesLogic 12 = .ok (.aload_n 0, 1) := by decide +kernel
theorem dX5_takesLogic_13 : decode cX5_takesLogic 13 = .ok (.getfield 37, 3) := by decide +kernel
theorem dX5_takesLogic_16 : decode cX5_takesLogic 16 = .ok (.invokevirtual 55, 3) := by decide +kernel
theorem dX5_takesLogic_19 : decode cX5_takesLogic 19 = .ok (.lookupswitch 331 #[(33, 89), (40, 128), (65, 187), (66, 307), (67, 235), (68, 259), (69, 211), (78, 283), (87, 136), (89, 163)], 89) := by decide +kernel
theorem dX5_takesLogic_108 : decode cX5_takesLogic 108 = .ok (.aload_n 0, 1) := by decide +kernel
theorem dX5_takesLogic_109 : decode cX5_takesLogic 109 = .ok (.dup, 1) := by decide +kernel
theorem dX5_takesLogic_110 : decode cX5_takesLogic 110 = .ok (.getfield 37, 3) := by decide +kernel
theorem dX5_takesLogic_113 : decode cX5_takesLogic 113 = .ok (.iconst 1, 1) := by decide +kernel
theorem dX5_takesLogic_114 : decode cX5_takesLogic 114 = .ok (.iadd, 1) := by decide +kernel
theorem dX5_takesLogic_115 : decode cX5_takesLogic 115 = .ok (.putfield 37, 3) := by decide +kernel
theorem dX5_takesLogic_118 : decode cX5_takesLogic 118 = .ok (.aload_n 0, 1) := by decide +kernel
theorem dX5_takesLogic_119 : decode cX5_takesLogic 119 = .ok (.iload_n 1, 1) := by decide +kernel
theorem dX5_takesLogic_120 : decode cX5_takesLogic 120 = .ok (.iconst 1, 1) := by decide +kernel
theorem dX5_takesLogic_121 : decode cX5_takesLogic 121 = .ok (.iadd, 1) := by decide +kernel
theorem dX5_takesLogic_122 : decode cX5_takesLogic 122 = .ok (.invokevirtual 45, 3) := by decide +kernel
theorem dX5_takesLogic_125 : decode cX5_takesLogic 125 = .ok (.ifCond .eq 20, 3) := by decide +kernel
theorem dX5_takesLogic_128 : decode cX5_takesLogic 128 = .ok (.aload_n 0, 1) := by decide +kernel
theorem dX5_takesLogic_129 : decode cX5_takesLogic 129 = .ok (.getfield 14, 3) := by decide +kernel
theorem dX5_takesLogic_132 : decode cX5_takesLogic 132 = .ok (.bipush 17, 2) := by decide +kernel
theorem dX5_takesLogic_134 : decode cX5_takesLogic 134 = .ok (.iconst 0, 1) := by decide +kernel
theorem dX5_takesLogic_135 : decode cX5_takesLogic 135 = .ok (.invokevirtual 87, 3) := by decide +kernel
theorem dX5_takesLogic_138 : decode cX5_takesLogic 138 = .ok (.ifCond .eq 7, 3) := by decide +kernel
theorem dX5_takesLogic_141 : decode cX5_takesLogic 141 = .ok (.iconst 1, 1) := by decide +kernel
theorem dX5_takesLogic_142 : decode cX5_takesLogic 142 = .ok (.goto 4, 3) := by decide +kernel
theorem dX5_takesLogic_145 : decode cX5_takesLogic 145 = .ok (.iconst 0, 1) := by decide +kernel
theorem dX5_takesLogic_146 : decode cX5_takesLogic 146 = .ok (.ireturn, 1) := by decide +kernel
theorem dX5_takesLogic_147 : decode cX5_takesLogic 147 = .ok (.aload_n 0, 1) := by decide +kernel
theorem dX5_takesLogic_148 : decode cX5_takesLogic 148 = .ok (.iload_n 1, 1) := by decide +kernel
theorem dX5_takesLogic_149 : decode cX5_takesLogic 149 = .ok (.iconst 1, 1) := by decide +kernel
theorem dX5_takesLogic_150 : decode cX5_takesLogic 150 = .ok (.iadd, 1) := by decide +kernel
theorem dX5_takesLogic_151 : decode cX5_takesLogic 151 = .ok (.invokevirtual 110, 3) := by decide +kernel
theorem dX5_takesLogic_154 : decode cX5_takesLogic 154 = .ok (.ireturn, 1) := by decide +kernel
theorem dX5_takesLogic_155 : decode cX5_takesLogic 155 = .ok (.aload_n 0, 1) := by decide +kernel
theorem dX5_takesLogic_156 : decode cX5_takesLogic 156 = .ok (.getfield 48, 3) := by decide +kernel
theorem dX5_takesLogic_159 : decode cX5_takesLogic 159 = .ok (.ifCond .eq 14, 3) := by decide +kernel
theorem dX5_takesLogic_162 : decode cX5_takesLogic 162 = .ok (.aload_n 0, 1) := by decide +kernel
theorem dX5_takesLogic_163 : decode cX5_takesLogic 163 = .ok (.bipush 13, 2) := by decide +kernel
theorem dX5_takesLogic_165 : decode cX5_takesLogic 165 = .ok (.ldc 74, 2) := by decide +kernel
theorem dX5_takesLogic_167 : decode cX5_takesLogic 167 = .ok (.invokevirtual 61, 3) := by decide +kernel
theorem dX5_takesLogic_170 : decode cX5_takesLogic 170 = .ok (.goto 11, 3) := by decide +kernel
theorem dX5_takesLogic_173 : decode cX5_takesLogic 173 = .ok (.aload_n 0, 1) := by decide +kernel
theorem dX5_takesLogic_174 : decode cX5_takesLogic 174 = .ok (.bipush 23, 2) := by decide +kernel
theorem dX5_takesLogic_176 : decode cX5_takesLogic 176 = .ok (.ldc 113, 2) := by decide +kernel
theorem dX5_takesLogic_178 : decode cX5_takesLogic 178 = .ok (.invokevirtual 61, 3) := by decide +kernel
theorem dX5_takesLogic_181 : decode cX5_takesLogic 181 = .ok (.ireturn, 1) := by decide +kernel
theorem dX5_takesLogic_182 : decode cX5_takesLogic 182 = .ok (.aload_n 0, 1) := by decide +kernel
theorem dX5_takesLogic_183 : decode cX5_takesLogic 183 = .ok (.getfield 48, 3) := by decide +kernel
theorem dX5_takesLogic_186 : decode cX5_takesLogic 186 = .ok (.ifCond .eq 18, 3) := by decide +kernel
theorem dX5_takesLogic_189 : decode cX5_takesLogic 189 = .ok (.aload_n 0, 1) := by decide +kernel
theorem dX5_takesLogic_190 : decode cX5_takesLogic 190 = .ok (.bipush 14, 2) := by decide +kernel
theorem dX5_takesLogic_192 : decode cX5_takesLogic 192 = .ok (.ldc 76, 2) := by decide +kernel
theorem dX5_takesLogic_194 : decode cX5_takesLogic 194 = .ok (.invokevirtual 61, 3) := by decide +kernel
theorem dX5_takesLogic_197 : decode cX5_takesLogic 197 = .ok (.ifCond .eq 7, 3) := by decide +kernel
theorem dX5_takesLogic_200 : decode cX5_takesLogic 200 = .ok (.iconst 1, 1) := by decide +kernel
theorem dX5_takesLogic_201 : decode cX5_takesLogic 201 = .ok (.goto 4, 3) := by decide +kernel
theorem dX5_takesLogic_204 : decode cX5_takesLogic 204 = .ok (.iconst 0, 1) := by decide +kernel
theorem dX5_takesLogic_205 : decode cX5_takesLogic 205 = .ok (.ireturn, 1) := by decide +kernel
theorem dX5_takesLogic_206 : decode cX5_takesLogic 206 = .ok (.aload_n 0, 1) := by decide +kernel
theorem dX5_takesLogic_207 : decode cX5_takesLogic 207 = .ok (.getfield 48, 3) := by decide +kernel
theorem dX5_takesLogic_210 : decode cX5_takesLogic 210 = .ok (.ifCond .eq 18, 3) := by decide +kernel
theorem dX5_takesLogic_213 : decode cX5_takesLogic 213 = .ok (.aload_n 0, 1) := by decide +kernel
theorem dX5_takesLogic_214 : decode cX5_takesLogic 214 = .ok (.bipush 15, 2) := by decide +kernel
theorem dX5_takesLogic_216 : decode cX5_takesLogic 216 = .ok (.ldc 69, 2) := by decide +kernel
theorem dX5_takesLogic_218 : decode cX5_takesLogic 218 = .ok (.invokevirtual 61, 3) := by decide +kernel
theorem dX5_takesLogic_221 : decode cX5_takesLogic 221 = .ok (.ifCond .eq 7, 3) := by decide +kernel
theorem dX5_takesLogic_224 : decode cX5_takesLogic 224 = .ok (.iconst 1, 1) := by decide +kernel
theorem dX5_takesLogic_225 : decode cX5_takesLogic 225 = .ok (.goto 4, 3) := by decide +kernel
theorem dX5_takesLogic_228 : decode cX5_takesLogic 228 = .ok (.iconst 0, 1) := by decide +kernel
theorem dX5_takesLogic_229 : decode cX5_takesLogic 229 = .ok (.ireturn, 1) := by decide +kernel
theorem dX5_takesLogic_230 : decode cX5_takesLogic 230 = .ok (.aload_n 0, 1) := by decide +kernel
theorem dX5_takesLogic_231 : decode cX5_takesLogic 231 = .ok (.getfield 48, 3) := by decide +kernel
theorem dX5_takesLogic_234 : decode cX5_takesLogic 234 = .ok (.ifCond .eq 18, 3) := by decide +kernel
theorem dX5_takesLogic_237 : decode cX5_takesLogic 237 = .ok (.aload_n 0, 1) := by decide +kernel
theorem dX5_takesLogic_238 : decode cX5_takesLogic 238 = .ok (.bipush 16, 2) := by decide +kernel
theorem dX5_takesLogic_240 : decode cX5_takesLogic 240 = .ok (.ldc 59, 2) := by decide +kernel
theorem dX5_takesLogic_242 : decode cX5_takesLogic 242 = .ok (.invokevirtual 61, 3) := by decide +kernel
theorem dX5_takesLogic_245 : decode cX5_takesLogic 245 = .ok (.ifCond .eq 7, 3) := by decide +kernel
theorem dX5_takesLogic_248 : decode cX5_takesLogic 248 = .ok (.iconst 1, 1) := by decide +kernel
theorem dX5_takesLogic_249 : decode cX5_takesLogic 249 = .ok (.goto 4, 3) := by decide +kernel
theorem dX5_takesLogic_252 : decode cX5_takesLogic 252 = .ok (.iconst 0, 1) := by decide +kernel
theorem dX5_takesLogic_253 : decode cX5_takesLogic 253 = .ok (.ireturn, 1) := by decide +kernel
theorem dX5_takesLogic_254 : decode cX5_takesLogic 254 = .ok (.aload_n 0, 1) := by decide +kernel
theorem dX5_takesLogic_255 : decode cX5_takesLogic 255 = .ok (.getfield 48, 3) := by decide +kernel
theorem dX5_takesLogic_258 : decode cX5_takesLogic 258 = .ok (.ifCond .ne 18, 3) := by decide +kernel
theorem dX5_takesLogic_261 : decode cX5_takesLogic 261 = .ok (.aload_n 0, 1) := by decide +kernel
theorem dX5_takesLogic_262 : decode cX5_takesLogic 262 = .ok (.bipush 21, 2) := by decide +kernel
theorem dX5_takesLogic_264 : decode cX5_takesLogic 264 = .ok (.ldc 76, 2) := by decide +kernel
theorem dX5_takesLogic_266 : decode cX5_takesLogic 266 = .ok (.invokevirtual 61, 3) := by decide +kernel
theorem dX5_takesLogic_269 : decode cX5_takesLogic 269 = .ok (.ifCond .eq 7, 3) := by decide +kernel
theorem dX5_takesLogic_272 : decode cX5_takesLogic 272 = .ok (.iconst 1, 1) := by decide +kernel
theorem dX5_takesLogic_273 : decode cX5_takesLogic 273 = .ok (.goto 4, 3) := by decide +kernel
theorem dX5_takesLogic_276 : decode cX5_takesLogic 276 = .ok (.iconst 0, 1) := by decide +kernel
theorem dX5_takesLogic_277 : decode cX5_takesLogic 277 = .ok (.ireturn, 1) := by decide +kernel
theorem dX5_takesLogic_278 : decode cX5_takesLogic 278 = .ok (.aload_n 0, 1) := by decide +kernel
theorem dX5_takesLogic_279 : decode cX5_takesLogic 279 = .ok (.getfield 48, 3) := by decide +kernel
theorem dX5_takesLogic_282 : decode cX5_takesLogic 282 = .ok (.ifCond .ne 18, 3) := by decide +kernel
theorem dX5_takesLogic_285 : decode cX5_takesLogic 285 = .ok (.aload_n 0, 1) := by decide +kernel
theorem dX5_takesLogic_286 : decode cX5_takesLogic 286 = .ok (.bipush 22, 2) := by decide +kernel
theorem dX5_takesLogic_288 : decode cX5_takesLogic 288 = .ok (.ldc 115, 2) := by decide +kernel
theorem dX5_takesLogic_290 : decode cX5_takesLogic 290 = .ok (.invokevirtual 61, 3) := by decide +kernel
theorem dX5_takesLogic_293 : decode cX5_takesLogic 293 = .ok (.ifCond .eq 7, 3) := by decide +kernel
theorem dX5_takesLogic_296 : decode cX5_takesLogic 296 = .ok (.iconst 1, 1) := by decide +kernel
theorem dX5_takesLogic_297 : decode cX5_takesLogic 297 = .ok (.goto 4, 3) := by decide +kernel
theorem dX5_takesLogic_300 : decode cX5_takesLogic 300 = .ok (.iconst 0, 1) := by decide +kernel
theorem dX5_takesLogic_301 : decode cX5_takesLogic 301 = .ok (.ireturn, 1) := by decide +kernel
theorem dX5_takesLogic_302 : decode cX5_takesLogic 302 = .ok (.aload_n 0, 1) := by decide +kernel
theorem dX5_takesLogic_303 : decode cX5_takesLogic 303 = .ok (.getfield 48, 3) := by decide +kernel
theorem dX5_takesLogic_306 : decode cX5_takesLogic 306 = .ok (.ifCond .ne 18, 3) := by decide +kernel
theorem dX5_takesLogic_309 : decode cX5_takesLogic 309 = .ok (.aload_n 0, 1) := by decide +kernel
theorem dX5_takesLogic_310 : decode cX5_takesLogic 310 = .ok (.bipush 24, 2) := by decide +kernel
theorem dX5_takesLogic_312 : decode cX5_takesLogic 312 = .ok (.ldc 69, 2) := by decide +kernel
theorem dX5_takesLogic_314 : decode cX5_takesLogic 314 = .ok (.invokevirtual 61, 3) := by decide +kernel
theorem dX5_takesLogic_317 : decode cX5_takesLogic 317 = .ok (.ifCond .eq 7, 3) := by decide +kernel
theorem dX5_takesLogic_320 : decode cX5_takesLogic 320 = .ok (.iconst 1, 1) := by decide +kernel
theorem dX5_takesLogic_321 : decode cX5_takesLogic 321 = .ok (.goto 4, 3) := by decide +kernel
theorem dX5_takesLogic_324 : decode cX5_takesLogic 324 = .ok (.iconst 0, 1) := by decide +kernel
theorem dX5_takesLogic_325 : decode cX5_takesLogic 325 = .ok (.ireturn, 1) := by decide +kernel
theorem dX5_takesLogic_326 : decode cX5_takesLogic 326 = .ok (.aload_n 0, 1) := by decide +kernel
theorem dX5_takesLogic_327 : decode cX5_takesLogic 327 = .ok (.getfield 48, 3) := by decide +kernel
theorem dX5_takesLogic_330 : decode cX5_takesLogic 330 = .ok (.ifCond .ne 18, 3) := by decide +kernel
theorem dX5_takesLogic_333 : decode cX5_takesLogic 333 = .ok (.aload_n 0, 1) := by decide +kernel
theorem dX5_takesLogic_334 : decode cX5_takesLogic 334 = .ok (.bipush 25, 2) := by decide +kernel
theorem dX5_takesLogic_336 : decode cX5_takesLogic 336 = .ok (.ldc 117, 2) := by decide +kernel
theorem dX5_takesLogic_338 : decode cX5_takesLogic 338 = .ok (.invokevirtual 61, 3) := by decide +kernel
theorem dX5_takesLogic_341 : decode cX5_takesLogic 341 = .ok (.ifCond .eq 7, 3) := by decide +kernel
theorem dX5_takesLogic_344 : decode cX5_takesLogic 344 = .ok (.iconst 1, 1) := by decide +kernel
theorem dX5_takesLogic_345 : decode cX5_takesLogic 345 = .ok (.goto 4, 3) := by decide +kernel
theorem dX5_takesLogic_348 : decode cX5_takesLogic 348 = .ok (.iconst 0, 1) := by decide +kernel
theorem dX5_takesLogic_349 : decode cX5_takesLogic 349 = .ok (.ireturn, 1) := by decide +kernel
theorem dX5_takesLogic_350 : decode cX5_takesLogic 350 = .ok (.iconst 0, 1) := by decide +kernel
theorem dX5_takesLogic_351 : decode cX5_takesLogic 351 = .ok (.ireturn, 1) := by decide +kernel
theorem dX5_takesPair_0 : decode cX5_takesPair 0 = .ok (.aload_n 0, 1) := by decide +kernel
theorem dX5_takesPair_1 : decode cX5_takesPair 1 = .ok (.dup, 1) := by decide +kernel
theorem dX5_takesPair_2 : decode cX5_takesPair 2 = .ok (.getfield 37, 3) := by decide +kernel
theorem dX5_takesPair_5 : decode cX5_takesPair 5 = .ok (.iconst 1, 1) := by decide +kernel
theorem dX5_takesPair_6 : decode cX5_takesPair 6 = .ok (.iadd, 1) := by decide +kernel
theorem dX5_takesPair_7 : decode cX5_takesPair 7 = .ok (.putfield 37, 3) := by decide +kernel
theorem dX5_takesPair_10 : decode cX5_takesPair 10 = .ok (.aload_n 0, 1) := by decide +kernel
theorem dX5_takesPair_11 : decode cX5_takesPair 11 = .ok (.iload_n 1, 1) := by decide +kernel
theorem dX5_takesPair_12 : decode cX5_takesPair 12 = .ok (.invokevirtual 45, 3) := by decide +kernel
theorem dX5_takesPair_15 : decode cX5_takesPair 15 = .ok (.ifCond .ne 5, 3) := by decide +kernel
theorem dX5_takesPair_18 : decode cX5_takesPair 18 = .ok (.iconst 0, 1) := by decide +kernel
theorem dX5_takesPair_19 : decode cX5_takesPair 19 = .ok (.ireturn, 1) := by decide +kernel
theorem dX5_takesPair_20 : decode cX5_takesPair 20 = .ok (.aload_n 0, 1) := by decide +kernel
theorem dX5_takesPair_21 : decode cX5_takesPair 21 = .ok (.bipush 38, 2) := by decide +kernel
theorem dX5_takesPair_23 : decode cX5_takesPair 23 = .ok (.invokevirtual 103, 3) := by decide +kernel
theorem dX5_takesPair_26 : decode cX5_takesPair 26 = .ok (.istore_n 2, 1) := by decide +kernel
theorem dX5_takesPair_27 : decode cX5_takesPair 27 = .ok (.iload_n 2, 1) := by decide +kernel
theorem dX5_takesPair_28 : decode cX5_takesPair 28 = .ok (.ifCond .ne 14, 3) := by decide +kernel
theorem dX5_takesPair_31 : decode cX5_takesPair 31 = .ok (.aload_n 0, 1) := by decide +kernel
theorem dX5_takesPair_32 : decode cX5_takesPair 32 = .ok (.bipush 124, 2) := by decide +kernel
theorem dX5_takesPair_34 : decode cX5_takesPair 34 = .ok (.invokevirtual 103, 3) := by decide +kernel
theorem dX5_takesPair_37 : decode cX5_takesPair 37 = .ok (.ifCond .ne 5, 3) := by decide +kernel
theorem dX5_takesPair_40 : decode cX5_takesPair 40 = .ok (.iconst 0, 1) := by decide +kernel
theorem dX5_takesPair_41 : decode cX5_takesPair 41 = .ok (.ireturn, 1) := by decide +kernel
theorem dX5_takesPair_42 : decode cX5_takesPair 42 = .ok (.aload_n 0, 1) := by decide +kernel
theorem dX5_takesPair_43 : decode cX5_takesPair 43 = .ok (.getfield 14, 3) := by decide +kernel
theorem dX5_takesPair_46 : decode cX5_takesPair 46 = .ok (.invokevirtual 100, 3) := by decide +kernel
theorem dX5_takesPair_49 : decode cX5_takesPair 49 = .ok (.istore_n 3, 1) := by decide +kernel
theorem dX5_takesPair_50 : decode cX5_takesPair 50 = .ok (.aload_n 0, 1) := by decide +kernel
theorem dX5_takesPair_51 : decode cX5_takesPair 51 = .ok (.getfield 14, 3) := by decide +kernel
theorem dX5_takesPair_54 : decode cX5_takesPair 54 = .ok (.iload_n 2, 1) := by decide +kernel
theorem dX5_takesPair_55 : decode cX5_takesPair 55 = .ok (.ifCond .eq 8, 3) := by decide +kernel
theorem dX5_takesPair_58 : decode cX5_takesPair 58 = .ok (.bipush 19, 2) := by decide +kernel
theorem dX5_takesPair_60 : decode cX5_takesPair 60 = .ok (.goto 5, 3) := by decide +kernel
theorem dX5_takesPair_63 : decode cX5_takesPair 63 = .ok (.bipush 20, 2) := by decide +kernel
theorem dX5_takesPair_65 : decode cX5_takesPair 65 = .ok (.iconst 0, 1) := by decide +kernel
theorem dX5_takesPair_66 : decode cX5_takesPair 66 = .ok (.invokevirtual 87, 3) := by decide +kernel
theorem dX5_takesPair_69 : decode cX5_takesPair 69 = .ok (.ifCond .eq 35, 3) := by decide +kernel
theorem dX5_takesPair_72 : decode cX5_takesPair 72 = .ok (.aload_n 0, 1) := by decide +kernel
theorem dX5_takesPair_73 : decode cX5_takesPair 73 = .ok (.iload_n 1, 1) := by decide +kernel
theorem dX5_takesPair_74 : decode cX5_takesPair 74 = .ok (.invokevirtual 45, 3) := by decide +kernel
theorem dX5_takesPair_77 : decode cX5_takesPair 77 = .ok (.ifCond .eq 27, 3) := by decide +kernel
theorem dX5_takesPair_80 : decode cX5_takesPair 80 = .ok (.aload_n 0, 1) := by decide +kernel
theorem dX5_takesPair_81 : decode cX5_takesPair 81 = .ok (.bipush 41, 2) := by decide +kernel
theorem dX5_takesPair_83 : decode cX5_takesPair 83 = .ok (.invokevirtual 103, 3) := by decide +kernel
theorem dX5_takesPair_86 : decode cX5_takesPair 86 = .ok (.ifCond .eq 18, 3) := by decide +kernel
theorem dX5_takesPair_89 : decode cX5_takesPair 89 = .ok (.aload_n 0, 1) := by decide +kernel
theorem dX5_takesPair_90 : decode cX5_takesPair 90 = .ok (.getfield 14, 3) := by decide +kernel
theorem dX5_takesPair_93 : decode cX5_takesPair 93 = .ok (.iload_n 3, 1) := by decide +kernel
theorem dX5_takesPair_94 : decode cX5_takesPair 94 = .ok (.invokevirtual 107, 3) := by decide +kernel
theorem dX5_takesPair_97 : decode cX5_takesPair 97 = .ok (.ifCond .eq 7, 3) := by decide +kernel
theorem dX5_takesPair_100 : decode cX5_takesPair 100 = .ok (.iconst 1, 1) := by decide +kernel
theorem dX5_takesPair_101 : decode cX5_takesPair 101 = .ok (.goto 4, 3) := by decide +kernel
theorem dX5_takesPair_104 : decode cX5_takesPair 104 = .ok (.iconst 0, 1) := by decide +kernel
theorem dX5_takesPair_105 : decode cX5_takesPair 105 = .ok (.ireturn, 1) := by decide +kernel
theorem dX5_takesPart_0 : decode cX5_takesPart 0 = .ok (.aload_n 0, 1) := by decide +kernel
theorem dX5_takesPart_1 : decode cX5_takesPart 1 = .ok (.dup, 1) := by decide +kernel
theorem dX5_takesPart_2 : decode cX5_takesPart 2 = .ok (.getfield 37, 3) := by decide +kernel
theorem dX5_takesPart_5 : decode cX5_takesPart 5 = .ok (.iconst 1, 1) := by decide +kernel
theorem dX5_takesPart_6 : decode cX5_takesPart 6 = .ok (.iadd, 1) := by decide +kernel
theorem dX5_takesPart_7 : decode cX5_takesPart 7 = .ok (.putfield 37, 3) := by decide +kernel
theorem dX5_takesPart_10 : decode cX5_takesPart 10 = .ok (.iconst 0, 1) := by decide +kernel
theorem dX5_takesPart_11 : decode cX5_takesPart 11 = .ok (.istore_n 3, 1) := by decide +kernel
theorem dX5_takesPart_12 : decode cX5_takesPart 12 = .ok (.iconst 0, 1) := by decide +kernel
theorem dX5_takesPart_13 : decode cX5_takesPart 13 = .ok (.istore 4, 2) := by decide +kernel
theorem dX5_takesPart_15 : decode cX5_takesPart 15 = .ok (.iload 4, 2) := by decide +kernel
theorem dX5_takesPart_17 : decode cX5_takesPart 17 = .ok (.aload_n 2, 1) := by decide +kernel
theorem dX5_takesPart_18 : decode cX5_takesPart 18 = .ok (.invokevirtual 119, 3) := by decide +kernel
theorem dX5_takesPart_21 : decode cX5_takesPart 21 = .ok (.if_icmp .ge 86, 3) := by decide +kernel
theorem dX5_takesPart_24 : decode cX5_takesPart 24 = .ok (.aload_n 2, 1) := by decide +kernel
theorem dX5_takesPart_25 : decode cX5_takesPart 25 = .ok (.iload 4, 2) := by decide +kernel
theorem dX5_takesPart_27 : decode cX5_takesPart 27 = .ok (.invokevirtual 122, 3) := by decide +kernel
theorem dX5_takesPart_30 : decode cX5_takesPart 30 = .ok (.istore 5, 2) := by decide +kernel
theorem dX5_takesPart_32 : decode cX5_takesPart 32 = .ok (.iload 5, 2) := by decide +kernel
theorem dX5_takesPart_34 : decode cX5_takesPart 34 = .ok (.bipush 110, 2) := by decide +kernel
theorem dX5_takesPart_36 : decode cX5_takesPart 36 = .ok (.if_icmp .eq 10, 3) := by decide +kernel
theorem dX5_takesPart_39 : decode cX5_takesPart 39 = .ok (.iload 5, 2) := by decide +kernel
theorem dX5_takesPart_41 : decode cX5_takesPart 41 = .ok (.bipush 119, 2) := by decide +kernel
theorem dX5_takesPart_43 : decode cX5_takesPart 43 = .ok (.if_icmp .ne 7, 3) := by decide +kernel
theorem dX5_takesPart_46 : decode cX5_takesPart 46 = .ok (.iconst 1, 1) := by decide +kernel
theorem dX5_takesPart_47 : decode cX5_takesPart 47 = .ok (.goto 4, 3) := by decide +kernel
theorem dX5_takesPart_50 : decode cX5_takesPart 50 = .ok (.iconst 0, 1) := by decide +kernel
theorem dX5_takesPart_51 : decode cX5_takesPart 51 = .ok (.istore 6, 2) := by decide +kernel
theorem dX5_takesPart_53 : decode cX5_takesPart 53 = .ok (.iload 6, 2) := by decide +kernel
theorem dX5_takesPart_55 : decode cX5_takesPart 55 = .ok (.ifCond .eq 15, 3) := by decide +kernel
theorem dX5_takesPart_58 : decode cX5_takesPart 58 = .ok (.aload_n 0, 1) := by decide +kernel
theorem dX5_takesPart_59 : decode cX5_takesPart 59 = .ok (.iload 5, 2) := by decide +kernel
theorem dX5_takesPart_61 : decode cX5_takesPart 61 = .ok (.invokevirtual 125, 3) := by decide +kernel
theorem dX5_takesPart_64 : decode cX5_takesPart 64 = .ok (.ifCond .eq 15, 3) := by decide +kernel
theorem dX5_takesPart_67 : decode cX5_takesPart 67 = .ok (.goto 14, 3) := by decide +kernel
theorem dX5_takesPart_70 : decode cX5_takesPart 70 = .ok (.aload_n 0, 1) := by decide +kernel
theorem dX5_takesPart_71 : decode cX5_takesPart 71 = .ok (.iload 5, 2) := by decide +kernel
theorem dX5_takesPart_73 : decode cX5_takesPart 73 = .ok (.invokevirtual 128, 3) := by decide +kernel
theorem dX5_takesPart_76 : decode cX5_takesPart 76 = .ok (.ifCond .ne 5, 3) := by decide +kernel
theorem dX5_takesPart_79 : decode cX5_takesPart 79 = .ok (.iconst 0, 1) := by decide +kernel
theorem dX5_takesPart_80 : decode cX5_takesPart 80 = .ok (.ireturn, 1) := by decide +kernel
theorem dX5_takesPart_81 : decode cX5_takesPart 81 = .ok (.iload 6, 2) := by decide +kernel
theorem dX5_takesPart_83 : decode cX5_takesPart 83 = .ok (.ifCond .eq 8, 3) := by decide +kernel
theorem dX5_takesPart_86 : decode cX5_takesPart 86 = .ok (.bipush 10, 2) := by decide +kernel
theorem dX5_takesPart_88 : decode cX5_takesPart 88 = .ok (.goto 5, 3) := by decide +kernel
theorem dX5_takesPart_91 : decode cX5_takesPart 91 = .ok (.bipush 100, 2) := by decide +kernel
theorem dX5_takesPart_93 : decode cX5_takesPart 93 = .ok (.iload_n 3, 1) := by decide +kernel
theorem dX5_takesPart_94 : decode cX5_takesPart 94 = .ok (.imul, 1) := by decide +kernel
theorem dX5_takesPart_95 : decode cX5_takesPart 95 = .ok (.aload_n 0, 1) := by decide +kernel
theorem dX5_takesPart_96 : decode cX5_takesPart 96 = .ok (.getfield 84, 3) := by decide +kernel
theorem dX5_takesPart_99 : decode cX5_takesPart 99 = .ok (.iadd, 1) := by decide +kernel
theorem dX5_takesPart_100 : decode cX5_takesPart 100 = .ok (.istore_n 3, 1) := by decide +kernel
theorem dX5_takesPart_101 : decode cX5_takesPart 101 = .ok (.iinc 4 1, 3) := by decide +kernel
theorem dX5_takesPart_104 : decode cX5_takesPart 104 = .ok (.goto (-89), 3) := by decide +kernel
theorem dX5_takesPart_107 : decode cX5_takesPart 107 = .ok (.aload_n 0, 1) := by decide +kernel
theorem dX5_takesPart_108 : decode cX5_takesPart 108 = .ok (.getfield 14, 3) := by decide +kernel
theorem dX5_takesPart_111 : decode cX5_takesPart 111 = .ok (.iload_n 1, 1) := by decide +kernel
theorem dX5_takesPart_112 : decode cX5_takesPart 112 = .ok (.iload_n 3, 1) := by decide +kernel
theorem dX5_takesPart_113 : decode cX5_takesPart 113 = .ok (.invokevirtual 87, 3) := by decide +kernel
theorem dX5_takesPart_116 : decode cX5_takesPart 116 = .ok (.ireturn, 1) := by decide +kernel
theorem dX5_takesOneDigit_0 : decode cX5_takesOneDigit 0 = .ok (.iload_n 1, 1) := by decide +kernel
theorem dX5_takesOneDigit_1 : decode cX5_takesOneDigit 1 = .ok (.bipush 110, 2) := by decide +kernel
theorem dX5_takesOneDigit_3 : decode cX5_takesOneDigit 3 = .ok (.if_icmp .ne 12, 3) := by decide +kernel
theorem dX5_takesOneDigit_6 : decode cX5_takesOneDigit 6 = .ok (.aload_n 0, 1) := by decide +kernel
theorem dX5_takesOneDigit_7 : decode cX5_takesOneDigit 7 = .ok (.iconst 1, 1) := by decide +kernel
theorem dX5_takesOneDigit_8 : decode cX5_takesOneDigit 8 = .ok (.iconst 5, 1) := by decide +kernel
theorem dX5_takesOneDigit_9 : decode cX5_takesOneDigit 9 = .ok (.invokevirtual 91, 3) := by decide +kernel
theorem dX5_takesOneDigit_12 : decode cX5_takesOneDigit 12 = .ok (.goto 10, 3) := by decide +kernel
theorem dX5_takesOneDigit_15 : decode cX5_takesOneDigit 15 = .ok (.aload_n 0, 1) := by decide +kernel
theorem dX5_takesOneDigit_16 : decode cX5_takesOneDigit 16 = .ok (.iconst 0, 1) := by decide +kernel
theorem dX5_takesOneDigit_17 : decode cX5_takesOneDigit 17 = .ok (.bipush 6, 2) := by decide +kernel
theorem dX5_takesOneDigit_19 : decode cX5_takesOneDigit 19 = .ok (.invokevirtual 91, 3) := by decide +kernel
theorem dX5_takesOneDigit_22 : decode cX5_takesOneDigit 22 = .ok (.ireturn, 1) := by decide +kernel
theorem dX5_takesTwoDigits_0 : decode cX5_takesTwoDigits 0 = .ok (.iload_n 1, 1) := by decide +kernel
theorem dX5_takesTwoDigits_1 : decode cX5_takesTwoDigits 1 = .ok (.bipush 102, 2) := by decide +kernel
theorem dX5_takesTwoDigits_3 : decode cX5_takesTwoDigits 3 = .ok (.if_icmp .ne 7, 3) := by decide +kernel
theorem dX5_takesTwoDigits_6 : decode cX5_takesTwoDigits 6 = .ok (.iconst 0, 1) := by decide +kernel
theorem dX5_takesTwoDigits_7 : decode cX5_takesTwoDigits 7 = .ok (.goto 4, 3) := by decide +kernel
theorem dX5_takesTwoDigits_10 : decode cX5_takesTwoDigits 10 = .ok (.iconst 1, 1) := by decide +kernel
theorem dX5_takesTwoDigits_11 : decode cX5_takesTwoDigits 11 = .ok (.istore_n 2, 1) := by decide +kernel
theorem dX5_takesTwoDigits_12 : decode cX5_takesTwoDigits 12 = .ok (.iload_n 1, 1) := by decide +kernel
theorem dX5_takesTwoDigits_13 : decode cX5_takesTwoDigits 13 = .ok (.bipush 102, 2) := by decide +kernel
theorem dX5_takesTwoDigits_15 : decode cX5_takesTwoDigits 15 = .ok (.if_icmp .ne 8, 3) := by decide +kernel
theorem dX5_takesTwoDigits_18 : decode cX5_takesTwoDigits 18 = .ok (.bipush 19, 2) := by decide +kernel
theorem dX5_takesTwoDigits_20 : decode cX5_takesTwoDigits 20 = .ok (.goto 21, 3) := by decide +kernel
theorem dX5_takesTwoDigits_23 : decode cX5_takesTwoDigits 23 = .ok (.iload_n 1, 1) := by decide +kernel
theorem dX5_takesTwoDigits_24 : decode cX5_takesTwoDigits 24 = .ok (.bipush 109, 2) := by decide +kernel
theorem dX5_takesTwoDigits_26 : decode cX5_takesTwoDigits 26 = .ok (.if_icmp .ne 8, 3) := by decide +kernel
theorem dX5_takesTwoDigits_29 : decode cX5_takesTwoDigits 29 = .ok (.bipush 12, 2) := by decide +kernel
theorem dX5_takesTwoDigits_31 : decode cX5_takesTwoDigits 31 = .ok (.goto 10, 3) := by decide +kernel
theorem dX5_takesTwoDigits_34 : decode cX5_takesTwoDigits 34 = .ok (.aload_n 0, 1) := by decide +kernel
theorem dX5_takesTwoDigits_35 : decode cX5_takesTwoDigits 35 = .ok (.getfield 84, 3) := by decide +kernel
theorem dX5_takesTwoDigits_38 : decode cX5_takesTwoDigits 38 = .ok (.invokestatic 133, 3) := by decide +kernel
theorem dX5_takesTwoDigits_41 : decode cX5_takesTwoDigits 41 = .ok (.istore_n 3, 1) := by decide +kernel
theorem dX5_takesTwoDigits_42 : decode cX5_takesTwoDigits 42 = .ok (.aload_n 0, 1) := by decide +kernel
theorem dX5_takesTwoDigits_43 : decode cX5_takesTwoDigits 43 = .ok (.iconst 0, 1) := by decide +kernel
theorem dX5_takesTwoDigits_44 : decode cX5_takesTwoDigits 44 = .ok (.iload_n 3, 1) := by decide +kernel
theorem dX5_takesTwoDigits_45 : decode cX5_takesTwoDigits 45 = .ok (.bipush 10, 2) := by decide +kernel
theorem dX5_takesTwoDigits_47 : decode cX5_takesTwoDigits 47 = .ok (.idiv, 1) := by decide +kernel
theorem dX5_takesTwoDigits_48 : decode cX5_takesTwoDigits 48 = .ok (.invokevirtual 91, 3) := by decide +kernel
theorem dX5_takesTwoDigits_51 : decode cX5_takesTwoDigits 51 = .ok (.ifCond .ne 5, 3) := by decide +kernel
theorem dX5_takesTwoDigits_54 : decode cX5_takesTwoDigits 54 = .ok (.iconst 0, 1) := by decide +kernel
theorem dX5_takesTwoDigits_55 : decode cX5_takesTwoDigits 55 = .ok (.ireturn, 1) := by decide +kernel
theorem dX5_takesTwoDigits_56 : decode cX5_takesTwoDigits 56 = .ok (.aload_n 0, 1) := by decide +kernel
theorem dX5_takesTwoDigits_57 : decode cX5_takesTwoDigits 57 = .ok (.getfield 84, 3) := by decide +kernel
theorem dX5_takesTwoDigits_60 : decode cX5_takesTwoDigits 60 = .ok (.istore 4, 2) := by decide +kernel
theorem dX5_takesTwoDigits_62 : decode cX5_takesTwoDigits 62 = .ok (.aload_n 0, 1) := by decide +kernel
theorem dX5_takesTwoDigits_63 : decode cX5_takesTwoDigits 63 = .ok (.iload 4, 2) := by decide +kernel
theorem dX5_takesTwoDigits_65 : decode cX5_takesTwoDigits 65 = .ok (.ifCond .ne 7, 3) := by decide +kernel
theorem dX5_takesTwoDigits_68 : decode cX5_takesTwoDigits 68 = .ok (.iload_n 2, 1) := by decide +kernel
theorem dX5_takesTwoDigits_69 : decode cX5_takesTwoDigits 69 = .ok (.goto 4, 3) := by decide +kernel
theorem dX5_takesTwoDigits_72 : decode cX5_takesTwoDigits 72 = .ok (.iconst 0, 1) := by decide +kernel
theorem dX5_takesTwoDigits_73 : decode cX5_takesTwoDigits 73 = .ok (.iload 4, 2) := by decide +kernel
theorem dX5_takesTwoDigits_75 : decode cX5_takesTwoDigits 75 = .ok (.iload_n 3, 1) := by decide +kernel
theorem dX5_takesTwoDigits_76 : decode cX5_takesTwoDigits 76 = .ok (.bipush 10, 2) := by decide +kernel
theorem dX5_takesTwoDigits_78 : decode cX5_takesTwoDigits 78 = .ok (.idiv, 1) := by decide +kernel
theorem dX5_takesTwoDigits_79 : decode cX5_takesTwoDigits 79 = .ok (.if_icmp .ne 10, 3) := by decide +kernel
theorem dX5_takesTwoDigits_82 : decode cX5_takesTwoDigits 82 = .ok (.iload_n 3, 1) := by decide +kernel
theorem dX5_takesTwoDigits_83 : decode cX5_takesTwoDigits 83 = .ok (.bipush 10, 2) := by decide +kernel
theorem dX5_takesTwoDigits_85 : decode cX5_takesTwoDigits 85 = .ok (.irem, 1) := by decide +kernel
theorem dX5_takesTwoDigits_86 : decode cX5_takesTwoDigits 86 = .ok (.goto 5, 3) := by decide +kernel
theorem dX5_takesTwoDigits_89 : decode cX5_takesTwoDigits 89 = .ok (.bipush 9, 2) := by decide +kernel
theorem dX5_takesTwoDigits_91 : decode cX5_takesTwoDigits 91 = .ok (.invokevirtual 91, 3) := by decide +kernel
theorem dX5_takesTwoDigits_94 : decode cX5_takesTwoDigits 94 = .ok (.ifCond .ne 5, 3) := by decide +kernel
theorem dX5_takesTwoDigits_97 : decode cX5_takesTwoDigits 97 = .ok (.iconst 0, 1) := by decide +kernel
theorem dX5_takesTwoDigits_98 : decode cX5_takesTwoDigits 98 = .ok (.ireturn, 1) := by decide +kernel
theorem dX5_takesTwoDigits_99 : decode cX5_takesTwoDigits 99 = .ok (.aload_n 0, 1) := by decide +kernel
theorem dX5_takesTwoDigits_100 : decode cX5_takesTwoDigits 100 = .ok (.dup, 1) := by decide +kernel
theorem dX5_takesTwoDigits_101 : decode cX5_takesTwoDigits 101 = .ok (.getfield 84, 3) := by decide +kernel
theorem dX5_takesTwoDigits_104 : decode cX5_takesTwoDigits 104 = .ok (.bipush 10, 2) := by decide +kernel
theorem dX5_takesTwoDigits_106 : decode cX5_takesTwoDigits 106 = .ok (.iload 4, 2) := by decide +kernel
theorem dX5_takesTwoDigits_108 : decode cX5_takesTwoDigits 108 = .ok (.imul, 1) := by decide +kernel
theorem dX5_takesTwoDigits_109 : decode cX5_takesTwoDigits 109 = .ok (.iadd, 1) := by decide +kernel
theorem dX5_takesTwoDigits_110 : decode cX5_takesTwoDigits 110 = .ok (.putfield 84, 3) := by decide +kernel
theorem dX5_takesTwoDigits_113 : decode cX5_takesTwoDigits 113 = .ok (.iload_n 1, 1) := by decide +kernel
theorem dX5_takesTwoDigits_114 : decode cX5_takesTwoDigits 114 = .ok (.bipush 102, 2) := by decide +kernel
theorem dX5_takesTwoDigits_116 : decode cX5_takesTwoDigits 116 = .ok (.if_icmp .ne 14, 3) := by decide +kernel
theorem dX5_takesTwoDigits_119 : decode cX5_takesTwoDigits 119 = .ok (.aload_n 0, 1) := by decide +kernel
theorem dX5_takesTwoDigits_120 : decode cX5_takesTwoDigits 120 = .ok (.getfield 14, 3) := by decide +kernel
theorem dX5_takesTwoDigits_123 : decode cX5_takesTwoDigits 123 = .ok (.aload_n 0, 1) := by decide +kernel
theorem dX5_takesTwoDigits_124 : decode cX5_takesTwoDigits 124 = .ok (.getfield 84, 3) := by decide +kernel
theorem dX5_takesTwoDigits_127 : decode cX5_takesTwoDigits 127 = .ok (.invokevirtual 137, 3) := by decide +kernel
theorem dX5_takesTwoDigits_130 : decode cX5_takesTwoDigits 130 = .ok (.iconst 1, 1) := by decide +kernel
theorem dX5_takesTwoDigits_131 : decode cX5_takesTwoDigits 131 = .ok (.ireturn, 1) := by decide +kernel
theorem dX5_takesDigit_0 : decode cX5_takesDigit 0 = .ok (.aload_n 0, 1) := by decide +kernel
theorem dX5_takesDigit_1 : decode cX5_takesDigit 1 = .ok (.getfield 21, 3) := by decide +kernel
theorem dX5_takesDigit_4 : decode cX5_takesDigit 4 = .ok (.aload_n 0, 1) := by decide +kernel
theorem dX5_takesDigit_5 : decode cX5_takesDigit 5 = .ok (.getfield 37, 3) := by decide +kernel
theorem dX5_takesDigit_8 : decode cX5_takesDigit 8 = .ok (.invokevirtual 55, 3) := by decide +kernel
theorem dX5_takesDigit_11 : decode cX5_takesDigit 11 = .ok (.bipush 48, 2) := by decide +kernel
theorem dX5_takesDigit_13 : decode cX5_takesDigit 13 = .ok (.isub, 1) := by decide +kernel
theorem dX5_takesDigit_14 : decode cX5_takesDigit 14 = .ok (.istore_n 3, 1) := by decide +kernel
theorem dX5_takesDigit_15 : decode cX5_takesDigit 15 = .ok (.iload_n 3, 1) := by decide +kernel
theorem dX5_takesDigit_16 : decode cX5_takesDigit 16 = .ok (.iload_n 1, 1) := by decide +kernel
theorem dX5_takesDigit_17 : decode cX5_takesDigit 17 = .ok (.if_icmp .lt 8, 3) := by decide +kernel
theorem dX5_takesDigit_20 : decode cX5_takesDigit 20 = .ok (.iload_n 3, 1) := by decide +kernel
theorem dX5_takesDigit_21 : decode cX5_takesDigit 21 = .ok (.iload_n 2, 1) := by decide +kernel
theorem dX5_takesDigit_22 : decode cX5_takesDigit 22 = .ok (.if_icmp .le 5, 3) := by decide +kernel
theorem dX5_takesDigit_25 : decode cX5_takesDigit 25 = .ok (.iconst 0, 1) := by decide +kernel
theorem dX5_takesDigit_26 : decode cX5_takesDigit 26 = .ok (.ireturn, 1) := by decide +kernel
theorem dX5_takesDigit_27 : decode cX5_takesDigit 27 = .ok (.aload_n 0, 1) := by decide +kernel
theorem dX5_takesDigit_28 : decode cX5_takesDigit 28 = .ok (.iload_n 3, 1) := by decide +kernel
theorem dX5_takesDigit_29 : decode cX5_takesDigit 29 = .ok (.putfield 84, 3) := by decide +kernel
theorem dX5_takesDigit_32 : decode cX5_takesDigit 32 = .ok (.aload_n 0, 1) := by decide +kernel
theorem dX5_takesDigit_33 : decode cX5_takesDigit 33 = .ok (.dup, 1) := by decide +kernel
theorem dX5_takesDigit_34 : decode cX5_takesDigit 34 = .ok (.getfield 37, 3) := by decide +kernel
theorem dX5_takesDigit_37 : decode cX5_takesDigit 37 = .ok (.iconst 1, 1) := by decide +kernel
theorem dX5_takesDigit_38 : decode cX5_takesDigit 38 = .ok (.iadd, 1) := by decide +kernel
theorem dX5_takesDigit_39 : decode cX5_takesDigit 39 = .ok (.putfield 37, 3) := by decide +kernel
theorem dX5_takesDigit_42 : decode cX5_takesDigit 42 = .ok (.iconst 1, 1) := by decide +kernel
theorem dX5_takesDigit_43 : decode cX5_takesDigit 43 = .ok (.ireturn, 1) := by decide +kernel
theorem dX5_takes_0 : decode cX5_takes 0 = .ok (.aload_n 0, 1) := by decide +kernel
theorem dX5_takes_1 : decode cX5_takes 1 = .ok (.getfield 21, 3) := by decide +kernel
theorem dX5_takes_4 : decode cX5_takes 4 = .ok (.aload_n 0, 1) := by decide +kernel
theorem dX5_takes_5 : decode cX5_takes 5 = .ok (.getfield 37, 3) := by decide +kernel
theorem dX5_takes_8 : decode cX5_takes 8 = .ok (.invokevirtual 55, 3) := by decide +kernel
theorem dX5_takes_11 : decode cX5_takes 11 = .ok (.iload_n 1, 1) := by decide +kernel
theorem dX5_takes_12 : decode cX5_takes 12 = .ok (.if_icmp .eq 5, 3) := by decide +kernel
theorem dX5_takes_15 : decode cX5_takes 15 = .ok (.iconst 0, 1) := by decide +kernel
theorem dX5_takes_16 : decode cX5_takes 16 = .ok (.ireturn, 1) := by decide +kernel
theorem dX5_takes_17 : decode cX5_takes 17 = .ok (.aload_n 0, 1) := by decide +kernel
theorem dX5_takes_18 : decode cX5_takes 18 = .ok (.dup, 1) := by decide +kernel
theorem dX5_takes_19 : decode cX5_takes 19 = .ok (.getfield 37, 3) := by decide +kernel
theorem dX5_takes_22 : decode cX5_takes 22 = .ok (.iconst 1, 1) := by decide +kernel
theorem dX5_takes_23 : decode cX5_takes 23 = .ok (.iadd, 1) := by decide +kernel
theorem dX5_takes_24 : decode cX5_takes 24 = .ok (.putfield 37, 3) := by decide +kernel
theorem dX5_takes_27 : decode cX5_takes 27 = .ok (.iconst 1, 1) := by decide +kernel
theorem dX5_takes_28 : decode cX5_takes 28 = .ok (.ireturn, 1) := by decide +kernel
theorem dX8_init_0 : decode cX8_init 0 = .ok (.aload_n 0, 1) := by decide +kernel
theorem dX8_init_1 : decode cX8_init 1 = .ok (.invokespecial 1, 3) := by decide +kernel
theorem dX8_init_4 : decode cX8_init 4 = .ok (.aload_n 0, 1) := by decide +kernel
theorem dX8_init_5 : decode cX8_init 5 = .ok (.bipush 40, 2) := by decide +kernel
theorem dX8_init_7 : decode cX8_init 7 = .ok (.newarray .char, 2) := by decide +kernel
theorem dX8_init_9 : decode cX8_init 9 = .ok (.putfield 9, 3) := by decide +kernel
theorem dX8_init_12 : decode cX8_init 12 = .ok (.return_, 1) := by decide +kernel
theorem dX8_append_0 : decode cX8_append 0 = .ok (.aload_n 0, 1) := by decide +kernel
theorem dX8_append_1 : decode cX8_append 1 = .ok (.getfield 13, 3) := by decide +kernel
theorem dX8_append_4 : decode cX8_append 4 = .ok (.bipush 40, 2) := by decide +kernel
theorem dX8_append_6 : decode cX8_append 6 = .ok (.if_icmp .lt 5, 3) := by decide +kernel
theorem dX8_append_9 : decode cX8_append 9 = .ok (.iconst 0, 1) := by decide +kernel
theorem dX8_append_10 : decode cX8_append 10 = .ok (.ireturn, 1) := by decide +kernel
theorem dX8_append_11 : decode cX8_append 11 = .ok (.aload_n 0, 1) := by decide +kernel
theorem dX8_append_12 : decode cX8_append 12 = .ok (.getfield 9, 3) := by decide +kernel
theorem dX8_append_15 : decode cX8_append 15 = .ok (.aload_n 0, 1) := by decide +kernel
theorem dX8_append_16 : decode cX8_append 16 = .ok (.getfield 13, 3) := by decide +kernel
theorem dX8_append_19 : decode cX8_append 19 = .ok (.iload_n 1, 1) := by decide +kernel
theorem dX8_append_20 : decode cX8_append 20 = .ok (.castore, 1) := by decide +kernel
theorem dX8_append_21 : decode cX8_append 21 = .ok (.aload_n 0, 1) := by decide +kernel
theorem dX8_append_22 : decode cX8_append 22 = .ok (.dup, 1) := by decide +kernel
theorem dX8_append_23 : decode cX8_append 23 = .ok (.getfield 13, 3) := by decide +kernel
theorem dX8_append_26 : decode cX8_append 26 = .ok (.iconst 1, 1) := by decide +kernel
theorem dX8_append_27 : decode cX8_append 27 = .ok (.iadd, 1) := by decide +kernel
theorem dX8_append_28 : decode cX8_append 28 = .ok (.putfield 13, 3) := by decide +kernel
theorem dX8_append_31 : decode cX8_append 31 = .ok (.iconst 1, 1) := by decide +kernel
theorem dX8_append_32 : decode cX8_append 32 = .ok (.ireturn, 1) := by decide +kernel
theorem dX8_clear_0 : decode cX8_clear 0 = .ok (.aload_n 0, 1) := by decide +kernel
theorem dX8_clear_1 : decode cX8_clear 1 = .ok (.iconst 0, 1) := by decide +kernel
theorem dX8_clear_2 : decode cX8_clear 2 = .ok (.putfield 13, 3) := by decide +kernel
theorem dX8_clear_5 : decode cX8_clear 5 = .ok (.return_, 1) := by decide +kernel
theorem dX8_length_0 : decode cX8_length 0 = .ok (.aload_n 0, 1) := by decide +kernel
theorem dX8_length_1 : decode cX8_length 1 = .ok (.getfield 13, 3) := by decide +kernel
theorem dX8_length_4 : decode cX8_length 4 = .ok (.ireturn, 1) := by decide +kernel
theorem dX8_at_0 : decode cX8_at 0 = .ok (.iload_n 1, 1) := by decide +kernel
theorem dX8_at_1 : decode cX8_at 1 = .ok (.ifCond .lt 20, 3) := by decide +kernel
theorem dX8_at_4 : decode cX8_at 4 = .ok (.iload_n 1, 1) := by decide +kernel
theorem dX8_at_5 : decode cX8_at 5 = .ok (.aload_n 0, 1) := by decide +kernel
theorem dX8_at_6 : decode cX8_at 6 = .ok (.getfield 13, 3) := by decide +kernel
theorem dX8_at_9 : decode cX8_at 9 = .ok (.if_icmp .ge 12, 3) := by decide +kernel
theorem dX8_at_12 : decode cX8_at 12 = .ok (.aload_n 0, 1) := by decide +kernel
theorem dX8_at_13 : decode cX8_at 13 = .ok (.getfield 9, 3) := by decide +kernel
theorem dX8_at_16 : decode cX8_at 16 = .ok (.iload_n 1, 1) := by decide +kernel
theorem dX8_at_17 : decode cX8_at 17 = .ok (.caload, 1) := by decide +kernel
theorem dX8_at_18 : decode cX8_at 18 = .ok (.goto 4, 3) := by decide +kernel
theorem dX8_at_21 : decode cX8_at 21 = .ok (.iconst 0, 1) := by decide +kernel
theorem dX8_at_22 : decode cX8_at 22 = .ok (.ireturn, 1) := by decide +kernel
theorem dX8_copyFrom_0 : decode cX8_copyFrom 0 = .ok (.aload_n 1, 1) := by decide +kernel
theorem dX8_copyFrom_1 : decode cX8_copyFrom 1 = .ok (.getfield 9, 3) := by decide +kernel
theorem dX8_copyFrom_4 : decode cX8_copyFrom 4 = .ok (.iconst 0, 1) := by decide +kernel
theorem dX8_copyFrom_5 : decode cX8_copyFrom 5 = .ok (.aload_n 0, 1) := by decide +kernel
theorem dX8_copyFrom_6 : decode cX8_copyFrom 6 = .ok (.getfield 9, 3) := by decide +kernel
theorem dX8_copyFrom_9 : decode cX8_copyFrom 9 = .ok (.iconst 0, 1) := by decide +kernel
theorem dX8_copyFrom_10 : decode cX8_copyFrom 10 = .ok (.bipush 40, 2) := by decide +kernel
theorem dX8_copyFrom_12 : decode cX8_copyFrom 12 = .ok (.invokestatic 17, 3) := by decide +kernel
theorem dX8_copyFrom_15 : decode cX8_copyFrom 15 = .ok (.aload_n 0, 1) := by decide +kernel
theorem dX8_copyFrom_16 : decode cX8_copyFrom 16 = .ok (.aload_n 1, 1) := by decide +kernel
theorem dX8_copyFrom_17 : decode cX8_copyFrom 17 = .ok (.getfield 13, 3) := by decide +kernel
theorem dX8_copyFrom_20 : decode cX8_copyFrom 20 = .ok (.putfield 13, 3) := by decide +kernel
theorem dX8_copyFrom_23 : decode cX8_copyFrom 23 = .ok (.return_, 1) := by decide +kernel
theorem dX9_init_0 : decode cX9_init 0 = .ok (.aload_n 0, 1) := by decide +kernel
theorem dX9_init_1 : decode cX9_init 1 = .ok (.invokespecial 3, 3) := by decide +kernel
theorem dX9_init_4 : decode cX9_init 4 = .ok (.return_, 1) := by decide +kernel
theorem dX9_enter_0 : decode cX9_enter 0 = .ok (.aload_n 0, 1) := by decide +kernel
theorem dX9_enter_1 : decode cX9_enter 1 = .ok (.iload_n 2, 1) := by decide +kernel
theorem dX9_enter_2 : decode cX9_enter 2 = .ok (.putfield 9, 3) := by decide +kernel
theorem dX9_enter_5 : decode cX9_enter 5 = .ok (.aload_n 0, 1) := by decide +kernel
theorem dX9_enter_6 : decode cX9_enter 6 = .ok (.iload_n 1, 1) := by decide +kernel
theorem dX9_enter_7 : decode cX9_enter 7 = .ok (.invokestatic 15, 3) := by decide +kernel
theorem dX9_enter_10 : decode cX9_enter 10 = .ok (.putfield 21, 3) := by decide +kernel
theorem dX9_enter_13 : decode cX9_enter 13 = .ok (.aload_n 0, 1) := by decide +kernel
theorem dX9_enter_14 : decode cX9_enter 14 = .ok (.iload_n 1, 1) := by decide +kernel
theorem dX9_enter_15 : decode cX9_enter 15 = .ok (.invokestatic 24, 3) := by decide +kernel
theorem dX9_enter_18 : decode cX9_enter 18 = .ok (.putfield 28, 3) := by decide +kernel
theorem dX9_enter_21 : decode cX9_enter 21 = .ok (.aload_n 0, 1) := by decide +kernel
theorem dX9_enter_22 : decode cX9_enter 22 = .ok (.iload_n 1, 1) := by decide +kernel
theorem dX9_enter_23 : decode cX9_enter 23 = .ok (.invokestatic 32, 3) := by decide +kernel
theorem dX9_enter_26 : decode cX9_enter 26 = .ok (.putfield 35, 3) := by decide +kernel
theorem dX9_enter_29 : decode cX9_enter 29 = .ok (.aload_n 0, 1) := by decide +kernel
theorem dX9_enter_30 : decode cX9_enter 30 = .ok (.aload_n 0, 1) := by decide +kernel
theorem dX9_enter_31 : decode cX9_enter 31 = .ok (.getfield 35, 3) := by decide +kernel
theorem dX9_enter_34 : decode cX9_enter 34 = .ok (.invokestatic 38, 3) := by decide +kernel
theorem dX9_enter_37 : decode cX9_enter 37 = .ok (.putfield 41, 3) := by decide +kernel
theorem dX9_enter_40 : decode cX9_enter 40 = .ok (.aload_n 0, 1) := by decide +kernel
theorem dX9_enter_41 : decode cX9_enter 41 = .ok (.iconst (-1), 1) := by decide +kernel
theorem dX9_enter_42 : decode cX9_enter 42 = .ok (.putfield 44, 3) := by decide +kernel
theorem dX9_enter_45 : decode cX9_enter 45 = .ok (.return_, 1) := by decide +kernel
theorem dX9_today_0 : decode cX9_today 0 = .ok (.aload_n 0, 1) := by decide +kernel
theorem dX9_today_1 : decode cX9_today 1 = .ok (.getfield 44, 3) := by decide +kernel
theorem dX9_today_4 : decode cX9_today 4 = .ok (.ireturn, 1) := by decide +kernel
theorem dX9_toNone_0 : decode cX9_toNone 0 = .ok (.aload_n 0, 1) := by decide +kernel
theorem dX9_toNone_1 : decode cX9_toNone 1 = .ok (.iconst (-1), 1) := by decide +kernel
theorem dX9_toNone_2 : decode cX9_toNone 2 = .ok (.putfield 44, 3) := by decide +kernel
theorem dX9_toNone_5 : decode cX9_toNone 5 = .ok (.return_, 1) := by decide +kernel
theorem dX9_toDay_0 : decode cX9_toDay 0 = .ok (.aload_n 0, 1) := by decide +kernel
theorem dX9_toDay_1 : decode cX9_toDay 1 = .ok (.iload_n 1, 1) := by decide +kernel
theorem dX9_toDay_2 : decode cX9_toDay 2 = .ok (.ifCond .lt 15, 3) := by decide +kernel
theorem dX9_toDay_5 : decode cX9_toDay 5 = .ok (.iload_n 1, 1) := by decide +kernel
theorem dX9_toDay_6 : decode cX9_toDay 6 = .ok (.aload_n 0, 1) := by decide +kernel
theorem dX9_toDay_7 : decode cX9_toDay 7 = .ok (.getfield 21, 3) := by decide +kernel
theorem dX9_toDay_10 : decode cX9_toDay 10 = .ok (.if_icmp .ge 7, 3) := by decide +kernel
theorem dX9_toDay_13 : decode cX9_toDay 13 = .ok (.iload_n 1, 1) := by decide +kernel
theorem dX9_toDay_14 : decode cX9_toDay 14 = .ok (.goto 4, 3) := by decide +kernel
theorem dX9_toDay_17 : decode cX9_toDay 17 = .ok (.iconst (-1), 1) := by decide +kernel
theorem dX9_toDay_18 : decode cX9_toDay 18 = .ok (.putfield 44, 3) := by decide +kernel
theorem dX9_toDay_21 : decode cX9_toDay 21 = .ok (.return_, 1) := by decide +kernel
theorem dX9_toDate_0 : decode cX9_toDate 0 = .ok (.aload_n 0, 1) := by decide +kernel
theorem dX9_toDate_1 : decode cX9_toDate 1 = .ok (.aload_n 0, 1) := by decide +kernel
theorem dX9_toDate_2 : decode cX9_toDate 2 = .ok (.getfield 28, 3) := by decide +kernel
theorem dX9_toDate_5 : decode cX9_toDate 5 = .ok (.iload_n 1, 1) := by decide +kernel
theorem dX9_toDate_6 : decode cX9_toDate 6 = .ok (.invokestatic 47, 3) := by decide +kernel
theorem dX9_toDate_9 : decode cX9_toDate 9 = .ok (.invokevirtual 51, 3) := by decide +kernel
theorem dX9_toDate_12 : decode cX9_toDate 12 = .ok (.return_, 1) := by decide +kernel
theorem dX9_toNthWeekday_0 : decode cX9_toNthWeekday 0 = .ok (.aload_n 0, 1) := by decide +kernel
theorem dX9_toNthWeekday_1 : decode cX9_toNthWeekday 1 = .ok (.getfield 28, 3) := by decide +kernel
theorem dX9_toNthWeekday_4 : decode cX9_toNthWeekday 4 = .ok (.iload_n 3, 1) := by decide +kernel
theorem dX9_toNthWeekday_5 : decode cX9_toNthWeekday 5 = .ok (.invokestatic 55, 3) := by decide +kernel
theorem dX9_toNthWeekday_8 : decode cX9_toNthWeekday 8 = .ok (.istore 4, 2) := by decide +kernel
theorem dX9_toNthWeekday_10 : decode cX9_toNthWeekday 10 = .ok (.iload 4, 2) := by decide +kernel
theorem dX9_toNthWeekday_12 : decode cX9_toNthWeekday 12 = .ok (.aload_n 0, 1) := by decide +kernel
theorem dX9_toNthWeekday_13 : decode cX9_toNthWeekday 13 = .ok (.iload 4, 2) := by decide +kernel
theorem dX9_toNthWeekday_15 : decode cX9_toNthWeekday 15 = .ok (.iload_n 2, 1) := by decide +kernel
theorem dX9_toNthWeekday_16 : decode cX9_toNthWeekday 16 = .ok (.invokevirtual 58, 3) := by decide +kernel
theorem dX9_toNthWeekday_19 : decode cX9_toNthWeekday 19 = .ok (.iadd, 1) := by decide +kernel
theorem dX9_toNthWeekday_20 : decode cX9_toNthWeekday 20 = .ok (.bipush 7, 2) := by decide +kernel
theorem dX9_toNthWeekday_22 : decode cX9_toNthWeekday 22 = .ok (.iload_n 1, 1) := by decide +kernel
theorem dX9_toNthWeekday_23 : decode cX9_toNthWeekday 23 = .ok (.iconst 1, 1) := by decide +kernel
theorem dX9_toNthWeekday_24 : decode cX9_toNthWeekday 24 = .ok (.isub, 1) := by decide +kernel
theorem dX9_toNthWeekday_25 : decode cX9_toNthWeekday 25 = .ok (.imul, 1) := by decide +kernel
theorem dX9_toNthWeekday_26 : decode cX9_toNthWeekday 26 = .ok (.iadd, 1) := by decide +kernel
theorem dX9_toNthWeekday_27 : decode cX9_toNthWeekday 27 = .ok (.istore 5, 2) := by decide +kernel
theorem dX9_toNthWeekday_29 : decode cX9_toNthWeekday 29 = .ok (.aload_n 0, 1) := by decide +kernel
theorem dX9_toNthWeekday_30 : decode cX9_toNthWeekday 30 = .ok (.iload 5, 2) := by decide +kernel
theorem dX9_toNthWeekday_32 : decode cX9_toNthWeekday 32 = .ok (.aload_n 0, 1) := by decide +kernel
theorem dX9_toNthWeekday_33 : decode cX9_toNthWeekday 33 = .ok (.getfield 28, 3) := by decide +kernel
theorem dX9_toNthWeekday_36 : decode cX9_toNthWeekday 36 = .ok (.iload_n 3, 1) := by decide +kernel
theorem dX9_toNthWeekday_37 : decode cX9_toNthWeekday 37 = .ok (.iconst 1, 1) := by decide +kernel
theorem dX9_toNthWeekday_38 : decode cX9_toNthWeekday 38 = .ok (.iadd, 1) := by decide +kernel
theorem dX9_toNthWeekday_39 : decode cX9_toNthWeekday 39 = .ok (.invokestatic 55, 3) := by decide +kernel
theorem dX9_toNthWeekday_42 : decode cX9_toNthWeekday 42 = .ok (.if_icmp .ge 8, 3) := by decide +kernel
theorem dX9_toNthWeekday_45 : decode cX9_toNthWeekday 45 = .ok (.iload 5, 2) := by decide +kernel
theorem dX9_toNthWeekday_47 : decode cX9_toNthWeekday 47 = .ok (.goto 4, 3) := by decide +kernel
theorem dX9_toNthWeekday_50 : decode cX9_toNthWeekday 50 = .ok (.iconst (-1), 1) := by decide +kernel
theorem dX9_toNthWeekday_51 : decode cX9_toNthWeekday 51 = .ok (.invokevirtual 51, 3) := by decide +kernel
theorem dX9_toNthWeekday_54 : decode cX9_toNthWeekday 54 = .ok (.return_, 1) := by decide +kernel
theorem dX9_toLastWeekday_0 : decode cX9_toLastWeekday 0 = .ok (.aload_n 0, 1) := by decide +kernel
theorem dX9_toLastWeekday_1 : decode cX9_toLastWeekday 1 = .ok (.getfield 28, 3) := by decide +kernel
theorem dX9_toLastWeekday_4 : decode cX9_toLastWeekday 4 = .ok (.iload_n 2, 1) := by decide +kernel
theorem dX9_toLastWeekday_5 : decode cX9_toLastWeekday 5 = .ok (.iconst 1, 1) := by decide +kernel
theorem dX9_toLastWeekday_6 : decode cX9_toLastWeekday 6 = .ok (.iadd, 1) := by decide +kernel
theorem dX9_toLastWeekday_7 : decode cX9_toLastWeekday 7 = .ok (.invokestatic 55, 3) := by decide +kernel
theorem dX9_toLastWeekday_10 : decode cX9_toLastWeekday 10 = .ok (.iconst 1, 1) := by decide +kernel
theorem dX9_toLastWeekday_11 : decode cX9_toLastWeekday 11 = .ok (.isub, 1) := by decide +kernel
theorem dX9_toLastWeekday_12 : decode cX9_toLastWeekday 12 = .ok (.istore_n 3, 1) := by decide +kernel
theorem dX9_toLastWeekday_13 : decode cX9_toLastWeekday 13 = .ok (.aload_n 0, 1) := by decide +kernel
theorem dX9_toLastWeekday_14 : decode cX9_toLastWeekday 14 = .ok (.iload_n 3, 1) := by decide +kernel
theorem dX9_toLastWeekday_15 : decode cX9_toLastWeekday 15 = .ok (.aload_n 0, 1) := by decide +kernel
theorem dX9_toLastWeekday_16 : decode cX9_toLastWeekday 16 = .ok (.iload_n 3, 1) := by decide +kernel
theorem dX9_toLastWeekday_17 : decode cX9_toLastWeekday 17 = .ok (.iload_n 1, 1) := by decide +kernel
theorem dX9_toLastWeekday_18 : decode cX9_toLastWeekday 18 = .ok (.invokevirtual 62, 3) := by decide +kernel
theorem dX9_toLastWeekday_21 : decode cX9_toLastWeekday 21 = .ok (.isub, 1) := by decide +kernel
theorem dX9_toLastWeekday_22 : decode cX9_toLastWeekday 22 = .ok (.invokevirtual 51, 3) := by decide +kernel
theorem dX9_toLastWeekday_25 : decode cX9_toLastWeekday 25 = .ok (.return_, 1) := by decide +kernel
theorem dX9_toLater_0 : decode cX9_toLater 0 = .ok (.aload_n 0, 1) := by decide +kernel
theorem dX9_toLater_1 : decode cX9_toLater 1 = .ok (.getfield 44, 3) := by decide +kernel
theorem dX9_toLater_4 : decode cX9_toLater 4 = .ok (.iconst (-1), 1) := by decide +kernel
theorem dX9_toLater_5 : decode cX9_toLater 5 = .ok (.if_icmp .eq 13, 3) := by decide +kernel
theorem dX9_toLater_8 : decode cX9_toLater 8 = .ok (.aload_n 0, 1) := by decide +kernel
theorem dX9_toLater_9 : decode cX9_toLater 9 = .ok (.aload_n 0, 1) := by decide +kernel
theorem dX9_toLater_10 : decode cX9_toLater 10 = .ok (.getfield 44, 3) := by decide +kernel
theorem dX9_toLater_13 : decode cX9_toLater 13 = .ok (.iload_n 1, 1) := by decide +kernel
theorem dX9_toLater_14 : decode cX9_toLater 14 = .ok (.iadd, 1) := by decide +kernel
theorem dX9_toLater_15 : decode cX9_toLater 15 = .ok (.invokevirtual 51, 3) := by decide +kernel
theorem dX9_toLater_18 : decode cX9_toLater 18 = .ok (.return_, 1) := by decide +kernel
theorem dX9_toWeekdayBehind_0 : decode cX9_toWeekdayBehind 0 = .ok (.aload_n 0, 1) := by decide +kernel
theorem dX9_toWeekdayBehind_1 : decode cX9_toWeekdayBehind 1 = .ok (.iconst 1, 1) := by decide +kernel
theorem dX9_toWeekdayBehind_2 : decode cX9_toWeekdayBehind 2 = .ok (.aload_n 0, 1) := by decide +kernel
theorem dX9_toWeekdayBehind_3 : decode cX9_toWeekdayBehind 3 = .ok (.aload_n 0, 1) := by decide +kernel
theorem dX9_toWeekdayBehind_4 : decode cX9_toWeekdayBehind 4 = .ok (.getfield 44, 3) := by decide +kernel
theorem dX9_toWeekdayBehind_7 : decode cX9_toWeekdayBehind 7 = .ok (.iconst 1, 1) := by decide +kernel
theorem dX9_toWeekdayBehind_8 : decode cX9_toWeekdayBehind 8 = .ok (.iadd, 1) := by decide +kernel
theorem dX9_toWeekdayBehind_9 : decode cX9_toWeekdayBehind 9 = .ok (.iload_n 1, 1) := by decide +kernel
theorem dX9_toWeekdayBehind_10 : decode cX9_toWeekdayBehind 10 = .ok (.invokevirtual 58, 3) := by decide +kernel
theorem dX9_toWeekdayBehind_13 : decode cX9_toWeekdayBehind 13 = .ok (.iadd, 1) := by decide +kernel
theorem dX9_toWeekdayBehind_14 : decode cX9_toWeekdayBehind 14 = .ok (.invokevirtual 65, 3) := by decide +kernel
theorem dX9_toWeekdayBehind_17 : decode cX9_toWeekdayBehind 17 = .ok (.return_, 1) := by decide +kernel
theorem dX9_toWeekdayAhead_0 : decode cX9_toWeekdayAhead 0 = .ok (.aload_n 0, 1) := by decide +kernel
theorem dX9_toWeekdayAhead_1 : decode cX9_toWeekdayAhead 1 = .ok (.iconst (-1), 1) := by decide +kernel
theorem dX9_toWeekdayAhead_2 : decode cX9_toWeekdayAhead 2 = .ok (.aload_n 0, 1) := by decide +kernel
theorem dX9_toWeekdayAhead_3 : decode cX9_toWeekdayAhead 3 = .ok (.aload_n 0, 1) := by decide +kernel
theorem dX9_toWeekdayAhead_4 : decode cX9_toWeekdayAhead 4 = .ok (.getfield 44, 3) := by decide +kernel
theorem dX9_toWeekdayAhead_7 : decode cX9_toWeekdayAhead 7 = .ok (.iconst 1, 1) := by decide +kernel
theorem dX9_toWeekdayAhead_8 : decode cX9_toWeekdayAhead 8 = .ok (.isub, 1) := by decide +kernel
theorem dX9_toWeekdayAhead_9 : decode cX9_toWeekdayAhead 9 = .ok (.iload_n 1, 1) := by decide +kernel
theorem dX9_toWeekdayAhead_10 : decode cX9_toWeekdayAhead 10 = .ok (.invokevirtual 62, 3) := by decide +kernel
theorem dX9_toWeekdayAhead_13 : decode cX9_toWeekdayAhead 13 = .ok (.isub, 1) := by decide +kernel
theorem dX9_toWeekdayAhead_14 : decode cX9_toWeekdayAhead 14 = .ok (.invokevirtual 65, 3) := by decide +kernel
theorem dX9_toWeekdayAhead_17 : decode cX9_toWeekdayAhead 17 = .ok (.return_, 1) := by decide +kernel
theorem dX9_toWeekdayNotAhead_0 : decode cX9_toWeekdayNotAhead 0 = .ok (.aload_n 0, 1) := by decide +kernel
theorem dX9_toWeekdayNotAhead_1 : decode cX9_toWeekdayNotAhead 1 = .ok (.aload_n 0, 1) := by decide +kernel
theorem dX9_toWeekdayNotAhead_2 : decode cX9_toWeekdayNotAhead 2 = .ok (.aload_n 0, 1) := by decide +kernel
theorem dX9_toWeekdayNotAhead_3 : decode cX9_toWeekdayNotAhead 3 = .ok (.getfield 44, 3) := by decide +kernel
theorem dX9_toWeekdayNotAhead_6 : decode cX9_toWeekdayNotAhead 6 = .ok (.iload_n 1, 1) := by decide +kernel
theorem dX9_toWeekdayNotAhead_7 : decode cX9_toWeekdayNotAhead 7 = .ok (.invokevirtual 58, 3) := by decide +kernel
theorem dX9_toWeekdayNotAhead_10 : decode cX9_toWeekdayNotAhead 10 = .ok (.invokevirtual 65, 3) := by decide +kernel
theorem dX9_toWeekdayNotAhead_13 : decode cX9_toWeekdayNotAhead 13 = .ok (.return_, 1) := by decide +kernel
theorem dX9_toWeekdayNotBehind_0 : decode cX9_toWeekdayNotBehind 0 = .ok (.aload_n 0, 1) := by decide +kernel
theorem dX9_toWeekdayNotBehind_1 : decode cX9_toWeekdayNotBehind 1 = .ok (.aload_n 0, 1) := by decide +kernel
theorem dX9_toWeekdayNotBehind_2 : decode cX9_toWeekdayNotBehind 2 = .ok (.aload_n 0, 1) := by decide +kernel
theorem dX9_toWeekdayNotBehind_3 : decode cX9_toWeekdayNotBehind 3 = .ok (.getfield 44, 3) := by decide +kernel
theorem dX9_toWeekdayNotBehind_6 : decode cX9_toWeekdayNotBehind 6 = .ok (.iload_n 1, 1) := by decide +kernel
theorem dX9_toWeekdayNotBehind_7 : decode cX9_toWeekdayNotBehind 7 = .ok (.invokevirtual 62, 3) := by decide +kernel
theorem dX9_toWeekdayNotBehind_10 : decode cX9_toWeekdayNotBehind 10 = .ok (.ineg, 1) := by decide +kernel
theorem dX9_toWeekdayNotBehind_11 : decode cX9_toWeekdayNotBehind 11 = .ok (.invokevirtual 65, 3) := by decide +kernel
theorem dX9_toWeekdayNotBehind_14 : decode cX9_toWeekdayNotBehind 14 = .ok (.return_, 1) := by decide +kernel
theorem dX9_toMoonOfAge_0 : decode cX9_toMoonOfAge 0 = .ok (.aload_n 0, 1) := by decide +kernel
theorem dX9_toMoonOfAge_1 : decode cX9_toMoonOfAge 1 = .ok (.getfield 44, 3) := by decide +kernel
theorem dX9_toMoonOfAge_4 : decode cX9_toMoonOfAge 4 = .ok (.iconst (-1), 1) := by decide +kernel
theorem dX9_toMoonOfAge_5 : decode cX9_toMoonOfAge 5 = .ok (.if_icmp .ne 4, 3) := by decide +kernel
theorem dX9_toMoonOfAge_8 : decode cX9_toMoonOfAge 8 = .ok (.return_, 1) := by decide +kernel
theorem dX9_toMoonOfAge_9 : decode cX9_toMoonOfAge 9 = .ok (.aload_n 0, 1) := by decide +kernel
theorem dX9_toMoonOfAge_10 : decode cX9_toMoonOfAge 10 = .ok (.getfield 35, 3) := by decide +kernel
theorem dX9_toMoonOfAge_13 : decode cX9_toMoonOfAge 13 = .ok (.aload_n 0, 1) := by decide +kernel
theorem dX9_toMoonOfAge_14 : decode cX9_toMoonOfAge 14 = .ok (.getfield 44, 3) := by decide +kernel
theorem dX9_toMoonOfAge_17 : decode cX9_toMoonOfAge 17 = .ok (.iadd, 1) := by decide +kernel
theorem dX9_toMoonOfAge_18 : decode cX9_toMoonOfAge 18 = .ok (.aload_n 0, 1) := by decide +kernel
theorem dX9_toMoonOfAge_19 : decode cX9_toMoonOfAge 19 = .ok (.getfield 9, 3) := by decide +kernel
theorem dX9_toMoonOfAge_22 : decode cX9_toMoonOfAge 22 = .ok (.invokestatic 68, 3) := by decide +kernel
theorem dX9_toMoonOfAge_25 : decode cX9_toMoonOfAge 25 = .ok (.istore_n 2, 1) := by decide +kernel
theorem dX9_toMoonOfAge_26 : decode cX9_toMoonOfAge 26 = .ok (.iload_n 2, 1) := by decide +kernel
theorem dX9_toMoonOfAge_27 : decode cX9_toMoonOfAge 27 = .ok (.aload_n 0, 1) := by decide +kernel
theorem dX9_toMoonOfAge_28 : decode cX9_toMoonOfAge 28 = .ok (.getfield 9, 3) := by decide +kernel
theorem dX9_toMoonOfAge_31 : decode cX9_toMoonOfAge 31 = .ok (.invokestatic 71, 3) := by decide +kernel
theorem dX9_toMoonOfAge_34 : decode cX9_toMoonOfAge 34 = .ok (.iload_n 1, 1) := by decide +kernel
theorem dX9_toMoonOfAge_35 : decode cX9_toMoonOfAge 35 = .ok (.iadd, 1) := by decide +kernel
theorem dX9_toMoonOfAge_36 : decode cX9_toMoonOfAge 36 = .ok (.aload_n 0, 1) := by decide +kernel
theorem dX9_toMoonOfAge_37 : decode cX9_toMoonOfAge 37 = .ok (.getfield 35, 3) := by decide +kernel
theorem dX9_toMoonOfAge_40 : decode cX9_toMoonOfAge 40 = .ok (.isub, 1) := by decide +kernel
theorem dX9_toMoonOfAge_41 : decode cX9_toMoonOfAge 41 = .ok (.istore_n 3, 1) := by decide +kernel
theorem dX9_toMoonOfAge_42 : decode cX9_toMoonOfAge 42 = .ok (.aload_n 0, 1) := by decide +kernel
theorem dX9_toMoonOfAge_43 : decode cX9_toMoonOfAge 43 = .ok (.iload_n 3, 1) := by decide +kernel
theorem dX9_toMoonOfAge_44 : decode cX9_toMoonOfAge 44 = .ok (.aload_n 0, 1) := by decide +kernel
theorem dX9_toMoonOfAge_45 : decode cX9_toMoonOfAge 45 = .ok (.getfield 44, 3) := by decide +kernel
theorem dX9_toMoonOfAge_48 : decode cX9_toMoonOfAge 48 = .ok (.if_icmp .lt 7, 3) := by decide +kernel
theorem dX9_toMoonOfAge_51 : decode cX9_toMoonOfAge 51 = .ok (.iload_n 3, 1) := by decide +kernel
theorem dX9_toMoonOfAge_52 : decode cX9_toMoonOfAge 52 = .ok (.goto 20, 3) := by decide +kernel
theorem dX9_toMoonOfAge_55 : decode cX9_toMoonOfAge 55 = .ok (.iload_n 2, 1) := by decide +kernel
theorem dX9_toMoonOfAge_56 : decode cX9_toMoonOfAge 56 = .ok (.iconst 1, 1) := by decide +kernel
theorem dX9_toMoonOfAge_57 : decode cX9_toMoonOfAge 57 = .ok (.iadd, 1) := by decide +kernel
theorem dX9_toMoonOfAge_58 : decode cX9_toMoonOfAge 58 = .ok (.aload_n 0, 1) := by decide +kernel
theorem dX9_toMoonOfAge_59 : decode cX9_toMoonOfAge 59 = .ok (.getfield 9, 3) := by decide +kernel
theorem dX9_toMoonOfAge_62 : decode cX9_toMoonOfAge 62 = .ok (.invokestatic 71, 3) := by decide +kernel
theorem dX9_toMoonOfAge_65 : decode cX9_toMoonOfAge 65 = .ok (.iload_n 1, 1) := by decide +kernel
theorem dX9_toMoonOfAge_66 : decode cX9_toMoonOfAge 66 = .ok (.iadd, 1) := by decide +kernel
theorem dX9_toMoonOfAge_67 : decode cX9_toMoonOfAge 67 = .ok (.aload_n 0, 1) := by decide +kernel
theorem dX9_toMoonOfAge_68 : decode cX9_toMoonOfAge 68 = .ok (.getfield 35, 3) := by decide +kernel
theorem dX9_toMoonOfAge_71 : decode cX9_toMoonOfAge 71 = .ok (.isub, 1) := by decide +kernel
theorem dX9_toMoonOfAge_72 : decode cX9_toMoonOfAge 72 = .ok (.invokevirtual 51, 3) := by decide +kernel
theorem dX9_toMoonOfAge_75 : decode cX9_toMoonOfAge 75 = .ok (.return_, 1) := by decide +kernel
theorem dX9_isOnWeekday_0 : decode cX9_isOnWeekday 0 = .ok (.aload_n 0, 1) := by decide +kernel
theorem dX9_isOnWeekday_1 : decode cX9_isOnWeekday 1 = .ok (.getfield 44, 3) := by decide +kernel
theorem dX9_isOnWeekday_4 : decode cX9_isOnWeekday 4 = .ok (.iconst (-1), 1) := by decide +kernel
theorem dX9_isOnWeekday_5 : decode cX9_isOnWeekday 5 = .ok (.if_icmp .eq 19, 3) := by decide +kernel
theorem dX9_isOnWeekday_8 : decode cX9_isOnWeekday 8 = .ok (.aload_n 0, 1) := by decide +kernel
theorem dX9_isOnWeekday_9 : decode cX9_isOnWeekday 9 = .ok (.aload_n 0, 1) := by decide +kernel
theorem dX9_isOnWeekday_10 : decode cX9_isOnWeekday 10 = .ok (.getfield 44, 3) := by decide +kernel
theorem dX9_isOnWeekday_13 : decode cX9_isOnWeekday 13 = .ok (.iload_n 1, 1) := by decide +kernel
theorem dX9_isOnWeekday_14 : decode cX9_isOnWeekday 14 = .ok (.invokevirtual 58, 3) := by decide +kernel
theorem dX9_isOnWeekday_17 : decode cX9_isOnWeekday 17 = .ok (.ifCond .ne 7, 3) := by decide +kernel
theorem dX9_isOnWeekday_20 : decode cX9_isOnWeekday 20 = .ok (.iconst 1, 1) := by decide +kernel
theorem dX9_isOnWeekday_21 : decode cX9_isOnWeekday 21 = .ok (.goto 4, 3) := by decide +kernel
theorem dX9_isOnWeekday_24 : decode cX9_isOnWeekday 24 = .ok (.iconst 0, 1) := by decide +kernel
theorem dX9_isOnWeekday_25 : decode cX9_isOnWeekday 25 = .ok (.ireturn, 1) := by decide +kernel
theorem dX9_isOnDay_0 : decode cX9_isOnDay 0 = .ok (.aload_n 0, 1) := by decide +kernel
theorem dX9_isOnDay_1 : decode cX9_isOnDay 1 = .ok (.getfield 44, 3) := by decide +kernel
theorem dX9_isOnDay_4 : decode cX9_isOnDay 4 = .ok (.iconst (-1), 1) := by decide +kernel
theorem dX9_isOnDay_5 : decode cX9_isOnDay 5 = .ok (.if_icmp .eq 15, 3) := by decide +kernel
theorem dX9_isOnDay_8 : decode cX9_isOnDay 8 = .ok (.aload_n 0, 1) := by decide +kernel
theorem dX9_isOnDay_9 : decode cX9_isOnDay 9 = .ok (.getfield 44, 3) := by decide +kernel
theorem dX9_isOnDay_12 : decode cX9_isOnDay 12 = .ok (.iload_n 1, 1) := by decide +kernel
theorem dX9_isOnDay_13 : decode cX9_isOnDay 13 = .ok (.if_icmp .ne 7, 3) := by decide +kernel
theorem dX9_isOnDay_16 : decode cX9_isOnDay 16 = .ok (.iconst 1, 1) := by decide +kernel
theorem dX9_isOnDay_17 : decode cX9_isOnDay 17 = .ok (.goto 4, 3) := by decide +kernel
theorem dX9_isOnDay_20 : decode cX9_isOnDay 20 = .ok (.iconst 0, 1) := by decide +kernel
theorem dX9_isOnDay_21 : decode cX9_isOnDay 21 = .ok (.ireturn, 1) := by decide +kernel
theorem dX9_isBeforeDate_0 : decode cX9_isBeforeDate 0 = .ok (.aload_n 0, 1) := by decide +kernel
theorem dX9_isBeforeDate_1 : decode cX9_isBeforeDate 1 = .ok (.getfield 44, 3) := by decide +kernel
theorem dX9_isBeforeDate_4 : decode cX9_isBeforeDate 4 = .ok (.iconst (-1), 1) := by decide +kernel
theorem dX9_isBeforeDate_5 : decode cX9_isBeforeDate 5 = .ok (.if_icmp .eq 32, 3) := by decide +kernel
theorem dX9_isBeforeDate_8 : decode cX9_isBeforeDate 8 = .ok (.aload_n 0, 1) := by decide +kernel
theorem dX9_isBeforeDate_9 : decode cX9_isBeforeDate 9 = .ok (.getfield 44, 3) := by decide +kernel
theorem dX9_isBeforeDate_12 : decode cX9_isBeforeDate 12 = .ok (.aload_n 0, 1) := by decide +kernel
theorem dX9_isBeforeDate_13 : decode cX9_isBeforeDate 13 = .ok (.getfield 28, 3) := by decide +kernel
theorem dX9_isBeforeDate_16 : decode cX9_isBeforeDate 16 = .ok (.iload_n 1, 1) := by decide +kernel
theorem dX9_isBeforeDate_17 : decode cX9_isBeforeDate 17 = .ok (.bipush 100, 2) := by decide +kernel
theorem dX9_isBeforeDate_19 : decode cX9_isBeforeDate 19 = .ok (.idiv, 1) := by decide +kernel
theorem dX9_isBeforeDate_20 : decode cX9_isBeforeDate 20 = .ok (.invokestatic 55, 3) := by decide +kernel
theorem dX9_isBeforeDate_23 : decode cX9_isBeforeDate 23 = .ok (.iload_n 1, 1) := by decide +kernel
theorem dX9_isBeforeDate_24 : decode cX9_isBeforeDate 24 = .ok (.bipush 100, 2) := by decide +kernel
theorem dX9_isBeforeDate_26 : decode cX9_isBeforeDate 26 = .ok (.irem, 1) := by decide +kernel
theorem dX9_isBeforeDate_27 : decode cX9_isBeforeDate 27 = .ok (.iadd, 1) := by decide +kernel
theorem dX9_isBeforeDate_28 : decode cX9_isBeforeDate 28 = .ok (.iconst 1, 1) := by decide +kernel
theorem dX9_isBeforeDate_29 : decode cX9_isBeforeDate 29 = .ok (.isub, 1) := by decide +kernel
theorem dX9_isBeforeDate_30 : decode cX9_isBeforeDate 30 = .ok (.if_icmp .ge 7, 3) := by decide +kernel
theorem dX9_isBeforeDate_33 : decode cX9_isBeforeDate 33 = .ok (.iconst 1, 1) := by decide +kernel
theorem dX9_isBeforeDate_34 : decode cX9_isBeforeDate 34 = .ok (.goto 4, 3) := by decide +kernel
theorem dX9_isBeforeDate_37 : decode cX9_isBeforeDate 37 = .ok (.iconst 0, 1) := by decide +kernel
theorem dX9_isBeforeDate_38 : decode cX9_isBeforeDate 38 = .ok (.ireturn, 1) := by decide +kernel
theorem dX9_isInLeapYear_0 : decode cX9_isInLeapYear 0 = .ok (.aload_n 0, 1) := by decide +kernel
theorem dX9_isInLeapYear_1 : decode cX9_isInLeapYear 1 = .ok (.getfield 28, 3) := by decide +kernel
theorem dX9_isInLeapYear_4 : decode cX9_isInLeapYear 4 = .ok (.ireturn, 1) := by decide +kernel
theorem dX9_daysUntil_0 : decode cX9_daysUntil 0 = .ok (.iload_n 2, 1) := by decide +kernel
theorem dX9_daysUntil_1 : decode cX9_daysUntil 1 = .ok (.aload_n 0, 1) := by decide +kernel
theorem dX9_daysUntil_2 : decode cX9_daysUntil 2 = .ok (.getfield 41, 3) := by decide +kernel
theorem dX9_daysUntil_5 : decode cX9_daysUntil 5 = .ok (.isub, 1) := by decide +kernel
theorem dX9_daysUntil_6 : decode cX9_daysUntil 6 = .ok (.iload_n 1, 1) := by decide +kernel
theorem dX9_daysUntil_7 : decode cX9_daysUntil 7 = .ok (.isub, 1) := by decide +kernel
theorem dX9_daysUntil_8 : decode cX9_daysUntil 8 = .ok (.bipush 7, 2) := by decide +kernel
theorem dX9_daysUntil_10 : decode cX9_daysUntil 10 = .ok (.invokestatic 74, 3) := by decide +kernel
theorem dX9_daysUntil_13 : decode cX9_daysUntil 13 = .ok (.ireturn, 1) := by decide +kernel
theorem dX9_daysSince_0 : decode cX9_daysSince 0 = .ok (.aload_n 0, 1) := by decide +kernel
theorem dX9_daysSince_1 : decode cX9_daysSince 1 = .ok (.getfield 41, 3) := by decide +kernel
theorem dX9_daysSince_4 : decode cX9_daysSince 4 = .ok (.iload_n 1, 1) := by decide +kernel
theorem dX9_daysSince_5 : decode cX9_daysSince 5 = .ok (.iadd, 1) := by decide +kernel
theorem dX9_daysSince_6 : decode cX9_daysSince 6 = .ok (.iload_n 2, 1) := by decide +kernel
theorem dX9_daysSince_7 : decode cX9_daysSince 7 = .ok (.isub, 1) := by decide +kernel
theorem dX9_daysSince_8 : decode cX9_daysSince 8 = .ok (.bipush 7, 2) := by decide +kernel
theorem dX9_daysSince_10 : decode cX9_daysSince 10 = .ok (.invokestatic 74, 3) := by decide +kernel
theorem dX9_daysSince_13 : decode cX9_daysSince 13 = .ok (.ireturn, 1) := by decide +kernel
theorem dJ9_floorDiv_7cf53_0 : decode cJ9_floorDiv_7cf53 0 = .ok (.iload_n 0, 1) := by decide +kernel
theorem dJ9_floorDiv_7cf53_1 : decode cJ9_floorDiv_7cf53 1 = .ok (.iload_n 1, 1) := by decide +kernel
theorem dJ9_floorDiv_7cf53_2 : decode cJ9_floorDiv_7cf53 2 = .ok (.idiv, 1) := by decide +kernel
theorem dJ9_floorDiv_7cf53_3 : decode cJ9_floorDiv_7cf53 3 = .ok (.istore_n 2, 1) := by decide +kernel
theorem dJ9_floorDiv_7cf53_4 : decode cJ9_floorDiv_7cf53 4 = .ok (.iload_n 0, 1) := by decide +kernel
theorem dJ9_floorDiv_7cf53_5 : decode cJ9_floorDiv_7cf53 5 = .ok (.iload_n 1, 1) := by decide +kernel
theorem dJ9_floorDiv_7cf53_6 : decode cJ9_floorDiv_7cf53 6 = .ok (.ixor, 1) := by decide +kernel
theorem dJ9_floorDiv_7cf53_7 : decode cJ9_floorDiv_7cf53 7 = .ok (.ifCond .ge 14, 3) := by decide +kernel
theorem dJ9_floorDiv_7cf53_10 : decode cJ9_floorDiv_7cf53 10 = .ok (.iload_n 2, 1) := by decide +kernel
theorem dJ9_floorDiv_7cf53_11 : decode cJ9_floorDiv_7cf53 11 = .ok (.iload_n 1, 1) := by decide +kernel
theorem dJ9_floorDiv_7cf53_12 : decode cJ9_floorDiv_7cf53 12 = .ok (.imul, 1) := by decide +kernel
theorem dJ9_floorDiv_7cf53_13 : decode cJ9_floorDiv_7cf53 13 = .ok (.iload_n 0, 1) := by decide +kernel
theorem dJ9_floorDiv_7cf53_14 : decode cJ9_floorDiv_7cf53 14 = .ok (.if_icmp .eq 7, 3) := by decide +kernel
theorem dJ9_floorDiv_7cf53_17 : decode cJ9_floorDiv_7cf53 17 = .ok (.iload_n 2, 1) := by decide +kernel
theorem dJ9_floorDiv_7cf53_18 : decode cJ9_floorDiv_7cf53 18 = .ok (.iconst 1, 1) := by decide +kernel
theorem dJ9_floorDiv_7cf53_19 : decode cJ9_floorDiv_7cf53 19 = .ok (.isub, 1) := by decide +kernel
theorem dJ9_floorDiv_7cf53_20 : decode cJ9_floorDiv_7cf53 20 = .ok (.ireturn, 1) := by decide +kernel
theorem dJ9_floorDiv_7cf53_21 : decode cJ9_floorDiv_7cf53 21 = .ok (.iload_n 2, 1) := by decide +kernel
theorem dJ9_floorDiv_7cf53_22 : decode cJ9_floorDiv_7cf53 22 = .ok (.ireturn, 1) := by decide +kernel
theorem dJ9_floorMod_7cf53_0 : decode cJ9_floorMod_7cf53 0 = .ok (.iload_n 0, 1) := by decide +kernel
theorem dJ9_floorMod_7cf53_1 : decode cJ9_floorMod_7cf53 1 = .ok (.iload_n 1, 1) := by decide +kernel
theorem dJ9_floorMod_7cf53_2 : decode cJ9_floorMod_7cf53 2 = .ok (.irem, 1) := by decide +kernel
theorem dJ9_floorMod_7cf53_3 : decode cJ9_floorMod_7cf53 3 = .ok (.istore_n 2, 1) := by decide +kernel
theorem dJ9_floorMod_7cf53_4 : decode cJ9_floorMod_7cf53 4 = .ok (.iload_n 0, 1) := by decide +kernel
theorem dJ9_floorMod_7cf53_5 : decode cJ9_floorMod_7cf53 5 = .ok (.iload_n 1, 1) := by decide +kernel
theorem dJ9_floorMod_7cf53_6 : decode cJ9_floorMod_7cf53 6 = .ok (.ixor, 1) := by decide +kernel
theorem dJ9_floorMod_7cf53_7 : decode cJ9_floorMod_7cf53 7 = .ok (.ifCond .ge 11, 3) := by decide +kernel
theorem dJ9_floorMod_7cf53_10 : decode cJ9_floorMod_7cf53 10 = .ok (.iload_n 2, 1) := by decide +kernel
theorem dJ9_floorMod_7cf53_11 : decode cJ9_floorMod_7cf53 11 = .ok (.ifCond .eq 7, 3) := by decide +kernel
theorem dJ9_floorMod_7cf53_14 : decode cJ9_floorMod_7cf53 14 = .ok (.iload_n 2, 1) := by decide +kernel
theorem dJ9_floorMod_7cf53_15 : decode cJ9_floorMod_7cf53 15 = .ok (.iload_n 1, 1) := by decide +kernel
theorem dJ9_floorMod_7cf53_16 : decode cJ9_floorMod_7cf53 16 = .ok (.iadd, 1) := by decide +kernel
theorem dJ9_floorMod_7cf53_17 : decode cJ9_floorMod_7cf53 17 = .ok (.ireturn, 1) := by decide +kernel
theorem dJ9_floorMod_7cf53_18 : decode cJ9_floorMod_7cf53 18 = .ok (.iload_n 2, 1) := by decide +kernel
theorem dJ9_floorMod_7cf53_19 : decode cJ9_floorMod_7cf53 19 = .ok (.ireturn, 1) := by decide +kernel
theorem dJ9_abs_0f7a4_0 : decode cJ9_abs_0f7a4 0 = .ok (.iload_n 0, 1) := by decide +kernel
theorem dJ9_abs_0f7a4_1 : decode cJ9_abs_0f7a4 1 = .ok (.ifCond .ge 8, 3) := by decide +kernel
theorem dJ9_abs_0f7a4_4 : decode cJ9_abs_0f7a4 4 = .ok (.iload_n 0, 1) := by decide +kernel
theorem dJ9_abs_0f7a4_5 : decode cJ9_abs_0f7a4 5 = .ok (.ineg, 1) := by decide +kernel
theorem dJ9_abs_0f7a4_6 : decode cJ9_abs_0f7a4 6 = .ok (.goto 4, 3) := by decide +kernel
theorem dJ9_abs_0f7a4_9 : decode cJ9_abs_0f7a4 9 = .ok (.iload_n 0, 1) := by decide +kernel
theorem dJ9_abs_0f7a4_10 : decode cJ9_abs_0f7a4 10 = .ok (.ireturn, 1) := by decide +kernel
theorem dJ9_min_7cf53_0 : decode cJ9_min_7cf53 0 = .ok (.iload_n 0, 1) := by decide +kernel
theorem dJ9_min_7cf53_1 : decode cJ9_min_7cf53 1 = .ok (.iload_n 1, 1) := by decide +kernel
theorem dJ9_min_7cf53_2 : decode cJ9_min_7cf53 2 = .ok (.if_icmp .gt 7, 3) := by decide +kernel
theorem dJ9_min_7cf53_5 : decode cJ9_min_7cf53 5 = .ok (.iload_n 0, 1) := by decide +kernel
theorem dJ9_min_7cf53_6 : decode cJ9_min_7cf53 6 = .ok (.goto 4, 3) := by decide +kernel
theorem dJ9_min_7cf53_9 : decode cJ9_min_7cf53 9 = .ok (.iload_n 1, 1) := by decide +kernel
theorem dJ9_min_7cf53_10 : decode cJ9_min_7cf53 10 = .ok (.ireturn, 1) := by decide +kernel
theorem dJ0_length_8abf5_0 : decode cJ0_length_8abf5 0 = .ok (.aload_n 0, 1) := by decide +kernel
theorem dJ0_length_8abf5_1 : decode cJ0_length_8abf5 1 = .ok (.getfield 9, 3) := by decide +kernel
theorem dJ0_length_8abf5_4 : decode cJ0_length_8abf5 4 = .ok (.arraylength, 1) := by decide +kernel
theorem dJ0_length_8abf5_5 : decode cJ0_length_8abf5 5 = .ok (.aload_n 0, 1) := by decide +kernel
theorem dJ0_length_8abf5_6 : decode cJ0_length_8abf5 6 = .ok (.invokevirtual 335, 3) := by decide +kernel
theorem dJ0_length_8abf5_9 : decode cJ0_length_8abf5 9 = .ok (.ishr, 1) := by decide +kernel
theorem dJ0_length_8abf5_10 : decode cJ0_length_8abf5 10 = .ok (.ireturn, 1) := by decide +kernel
theorem dJ0_charAt_5068e_0 : decode cJ0_charAt_5068e 0 = .ok (.aload_n 0, 1) := by decide +kernel
theorem dJ0_charAt_5068e_1 : decode cJ0_charAt_5068e 1 = .ok (.invokevirtual 492, 3) := by decide +kernel
theorem dJ0_charAt_5068e_4 : decode cJ0_charAt_5068e 4 = .ok (.ifCond .eq 12, 3) := by decide +kernel
theorem dJ0_charAt_5068e_7 : decode cJ0_charAt_5068e 7 = .ok (.aload_n 0, 1) := by decide +kernel
theorem dJ0_charAt_5068e_8 : decode cJ0_charAt_5068e 8 = .ok (.getfield 9, 3) := by decide +kernel
theorem dJ0_charAt_5068e_11 : decode cJ0_charAt_5068e 11 = .ok (.iload_n 1, 1) := by decide +kernel
theorem dJ0_charAt_5068e_12 : decode cJ0_charAt_5068e 12 = .ok (.invokestatic 495, 3) := by decide +kernel
theorem dJ0_charAt_5068e_15 : decode cJ0_charAt_5068e 15 = .ok (.ireturn, 1) := by decide +kernel
theorem dJ0_charAt_5068e_16 : decode cJ0_charAt_5068e 16 = .ok (.aload_n 0, 1) := by decide +kernel
theorem dJ0_charAt_5068e_17 : decode cJ0_charAt_5068e 17 = .ok (.getfield 9, 3) := by decide +kernel
theorem dJ0_charAt_5068e_20 : decode cJ0_charAt_5068e 20 = .ok (.iload_n 1, 1) := by decide +kernel
theorem dJ0_charAt_5068e_21 : decode cJ0_charAt_5068e 21 = .ok (.invokestatic 498, 3) := by decide +kernel
theorem dJ0_charAt_5068e_24 : decode cJ0_charAt_5068e 24 = .ok (.ireturn, 1) := by decide +kernel
theorem dJ0_coder_7d493_0 : decode cJ0_coder_7d493 0 = .ok (.getstatic 38, 3) := by decide +kernel
theorem dJ0_coder_7d493_3 : decode cJ0_coder_7d493 3 = .ok (.ifCond .eq 10, 3) := by decide +kernel
theorem dJ0_coder_7d493_6 : decode cJ0_coder_7d493 6 = .ok (.aload_n 0, 1) := by decide +kernel
theorem dJ0_coder_7d493_7 : decode cJ0_coder_7d493 7 = .ok (.getfield 15, 3) := by decide +kernel
theorem dJ0_coder_7d493_10 : decode cJ0_coder_7d493 10 = .ok (.goto 4, 3) := by decide +kernel
theorem dJ0_coder_7d493_13 : decode cJ0_coder_7d493 13 = .ok (.iconst 1, 1) := by decide +kernel
theorem dJ0_coder_7d493_14 : decode cJ0_coder_7d493 14 = .ok (.ireturn, 1) := by decide +kernel
theorem dJ0_isLatin1_aae02_0 : decode cJ0_isLatin1_aae02 0 = .ok (.getstatic 38, 3) := by decide +kernel
theorem dJ0_isLatin1_aae02_3 : decode cJ0_isLatin1_aae02 3 = .ok (.ifCond .eq 14, 3) := by decide +kernel
theorem dJ0_isLatin1_aae02_6 : decode cJ0_isLatin1_aae02 6 = .ok (.aload_n 0, 1) := by decide +kernel
theorem dJ0_isLatin1_aae02_7 : decode cJ0_isLatin1_aae02 7 = .ok (.getfield 15, 3) := by decide +kernel
theorem dJ0_isLatin1_aae02_10 : decode cJ0_isLatin1_aae02 10 = .ok (.ifCond .ne 7, 3) := by decide +kernel
theorem dJ0_isLatin1_aae02_13 : decode cJ0_isLatin1_aae02 13 = .ok (.iconst 1, 1) := by decide +kernel
theorem dJ0_isLatin1_aae02_14 : decode cJ0_isLatin1_aae02 14 = .ok (.goto 4, 3) := by decide +kernel
theorem dJ0_isLatin1_aae02_17 : decode cJ0_isLatin1_aae02 17 = .ok (.iconst 0, 1) := by decide +kernel
theorem dJ0_isLatin1_aae02_18 : decode cJ0_isLatin1_aae02 18 = .ok (.ireturn, 1) := by decide +kernel
theorem dJ0_checkIndex_df160_0 : decode cJ0_checkIndex_df160 0 = .ok (.iload_n 0, 1) := by decide +kernel
theorem dJ0_checkIndex_df160_1 : decode cJ0_checkIndex_df160 1 = .ok (.iload_n 1, 1) := by decide +kernel
theorem dJ0_checkIndex_df160_2 : decode cJ0_checkIndex_df160 2 = .ok (.getstatic 1053, 3) := by decide +kernel
theorem dJ0_checkIndex_df160_5 : decode cJ0_checkIndex_df160 5 = .ok (.invokestatic 1059, 3) := by decide +kernel
theorem dJ0_checkIndex_df160_8 : decode cJ0_checkIndex_df160 8 = .ok (.pop, 1) := by decide +kernel
theorem dJ0_checkIndex_df160_9 : decode cJ0_checkIndex_df160 9 = .ok (.return_, 1) := by decide +kernel
theorem dJ1_charAt_3b067_0 : decode cJ1_charAt_3b067 0 = .ok (.iload_n 1, 1) := by decide +kernel
theorem dJ1_charAt_3b067_1 : decode cJ1_charAt_3b067 1 = .ok (.aload_n 0, 1) := by decide +kernel
theorem dJ1_charAt_3b067_2 : decode cJ1_charAt_3b067 2 = .ok (.arraylength, 1) := by decide +kernel
theorem dJ1_charAt_3b067_3 : decode cJ1_charAt_3b067 3 = .ok (.invokestatic 9, 3) := by decide +kernel
theorem dJ1_charAt_3b067_6 : decode cJ1_charAt_3b067 6 = .ok (.aload_n 0, 1) := by decide +kernel
theorem dJ1_charAt_3b067_7 : decode cJ1_charAt_3b067 7 = .ok (.iload_n 1, 1) := by decide +kernel
theorem dJ1_charAt_3b067_8 : decode cJ1_charAt_3b067 8 = .ok (.baload, 1) := by decide +kernel
theorem dJ1_charAt_3b067_9 : decode cJ1_charAt_3b067 9 = .ok (.sipush 255, 3) := by decide +kernel
theorem dJ1_charAt_3b067_12 : decode cJ1_charAt_3b067 12 = .ok (.iand, 1) := by decide +kernel
theorem dJ1_charAt_3b067_13 : decode cJ1_charAt_3b067 13 = .ok (.i2c, 1) := by decide +kernel
theorem dJ1_charAt_3b067_14 : decode cJ1_charAt_3b067 14 = .ok (.ireturn, 1) := by decide +kernel
theorem dJ2_getChar_3b067_0 : decode cJ2_getChar_3b067 0 = .ok (.getstatic 44, 3) := by decide +kernel
theorem dJ2_getChar_3b067_3 : decode cJ2_getChar_3b067 3 = .ok (.ifCond .ne 25, 3) := by decide +kernel
theorem dJ2_getChar_3b067_6 : decode cJ2_getChar_3b067 6 = .ok (.iload_n 1, 1) := by decide +kernel
theorem dJ2_getChar_3b067_7 : decode cJ2_getChar_3b067 7 = .ok (.ifCond .lt 11, 3) := by decide +kernel
theorem dJ2_getChar_3b067_10 : decode cJ2_getChar_3b067 10 = .ok (.iload_n 1, 1) := by decide +kernel
theorem dJ2_getChar_3b067_11 : decode cJ2_getChar_3b067 11 = .ok (.aload_n 0, 1) := by decide +kernel
theorem dJ2_getChar_3b067_12 : decode cJ2_getChar_3b067 12 = .ok (.invokestatic 48, 3) := by decide +kernel
theorem dJ2_getChar_3b067_15 : decode cJ2_getChar_3b067 15 = .ok (.if_icmp .lt 13, 3) := by decide +kernel
theorem dJ2_getChar_3b067_18 : decode cJ2_getChar_3b067 18 = .ok (.new 52, 3) := by decide +kernel
theorem dJ2_getChar_3b067_21 : decode cJ2_getChar_3b067 21 = .ok (.dup, 1) := by decide +kernel
theorem dJ2_getChar_3b067_22 : decode cJ2_getChar_3b067 22 = .ok (.ldc 54, 2) := by decide +kernel
theorem dJ2_getChar_3b067_24 : decode cJ2_getChar_3b067 24 = .ok (.invokespecial 56, 3) := by decide +kernel
theorem dJ2_getChar_3b067_27 : decode cJ2_getChar_3b067 27 = .ok (.athrow, 1) := by decide +kernel
theorem dJ2_getChar_3b067_28 : decode cJ2_getChar_3b067 28 = .ok (.iload_n 1, 1) := by decide +kernel
theorem dJ2_getChar_3b067_29 : decode cJ2_getChar_3b067 29 = .ok (.iconst 1, 1) := by decide +kernel
theorem dJ2_getChar_3b067_30 : decode cJ2_getChar_3b067 30 = .ok (.ishl, 1) := by decide +kernel
theorem dJ2_getChar_3b067_31 : decode cJ2_getChar_3b067 31 = .ok (.istore_n 1, 1) := by decide +kernel
theorem dJ2_getChar_3b067_32 : decode cJ2_getChar_3b067 32 = .ok (.aload_n 0, 1) := by decide +kernel
theorem dJ2_getChar_3b067_33 : decode cJ2_getChar_3b067 33 = .ok (.iload_n 1, 1) := by decide +kernel
theorem dJ2_getChar_3b067_34 : decode cJ2_getChar_3b067 34 = .ok (.iinc 1 1, 3) := by decide +kernel
theorem dJ2_getChar_3b067_37 : decode cJ2_getChar_3b067 37 = .ok (.baload, 1) := by decide +kernel
theorem dJ2_getChar_3b067_38 : decode cJ2_getChar_3b067 38 = .ok (.sipush 255, 3) := by decide +kernel
theorem dJ2_getChar_3b067_41 : decode cJ2_getChar_3b067 41 = .ok (.iand, 1) := by decide +kernel
theorem dJ2_getChar_3b067_42 : decode cJ2_getChar_3b067 42 = .ok (.getstatic 59, 3) := by decide +kernel
theorem dJ2_getChar_3b067_45 : decode cJ2_getChar_3b067 45 = .ok (.ishl, 1) := by decide +kernel
theorem dJ2_getChar_3b067_46 : decode cJ2_getChar_3b067 46 = .ok (.aload_n 0, 1) := by decide +kernel
theorem dJ2_getChar_3b067_47 : decode cJ2_getChar_3b067 47 = .ok (.iload_n 1, 1) := by decide +kernel
theorem dJ2_getChar_3b067_48 : decode cJ2_getChar_3b067 48 = .ok (.baload, 1) := by decide +kernel
theorem dJ2_getChar_3b067_49 : decode cJ2_getChar_3b067 49 = .ok (.sipush 255, 3) := by decide +kernel
theorem dJ2_getChar_3b067_52 : decode cJ2_getChar_3b067 52 = .ok (.iand, 1) := by decide +kernel
theorem dJ2_getChar_3b067_53 : decode cJ2_getChar_3b067 53 = .ok (.getstatic 63, 3) := by decide +kernel
theorem dJ2_getChar_3b067_56 : decode cJ2_getChar_3b067 56 = .ok (.ishl, 1) := by decide +kernel
theorem dJ2_getChar_3b067_57 : decode cJ2_getChar_3b067 57 = .ok (.ior, 1) := by decide +kernel
theorem dJ2_getChar_3b067_58 : decode cJ2_getChar_3b067 58 = .ok (.i2c, 1) := by decide +kernel
theorem dJ2_getChar_3b067_59 : decode cJ2_getChar_3b067 59 = .ok (.ireturn, 1) := by decide +kernel
theorem dJ2_length_9d52b_0 : decode cJ2_length_9d52b 0 = .ok (.aload_n 0, 1) := by decide +kernel
theorem dJ2_length_9d52b_1 : decode cJ2_length_9d52b 1 = .ok (.arraylength, 1) := by decide +kernel
theorem dJ2_length_9d52b_2 : decode cJ2_length_9d52b 2 = .ok (.iconst 1, 1) := by decide +kernel
theorem dJ2_length_9d52b_3 : decode cJ2_length_9d52b 3 = .ok (.ishr, 1) := by decide +kernel
theorem dJ2_length_9d52b_4 : decode cJ2_length_9d52b 4 = .ok (.ireturn, 1) := by decide +kernel
theorem dJ2_charAt_3b067_0 : decode cJ2_charAt_3b067 0 = .ok (.iload_n 1, 1) := by decide +kernel
theorem dJ2_charAt_3b067_1 : decode cJ2_charAt_3b067 1 = .ok (.aload_n 0, 1) := by decide +kernel
theorem dJ2_charAt_3b067_2 : decode cJ2_charAt_3b067 2 = .ok (.invokestatic 67, 3) := by decide +kernel
theorem dJ2_charAt_3b067_5 : decode cJ2_charAt_3b067 5 = .ok (.aload_n 0, 1) := by decide +kernel
theorem dJ2_charAt_3b067_6 : decode cJ2_charAt_3b067 6 = .ok (.iload_n 1, 1) := by decide +kernel
theorem dJ2_charAt_3b067_7 : decode cJ2_charAt_3b067 7 = .ok (.invokestatic 71, 3) := by decide +kernel
theorem dJ2_charAt_3b067_10 : decode cJ2_charAt_3b067 10 = .ok (.ireturn, 1) := by decide +kernel
theorem dJ2_checkIndex_2214a_0 : decode cJ2_checkIndex_2214a 0 = .ok (.iload_n 0, 1) := by decide +kernel
theorem dJ2_checkIndex_2214a_1 : decode cJ2_checkIndex_2214a 1 = .ok (.aload_n 1, 1) := by decide +kernel
theorem dJ2_checkIndex_2214a_2 : decode cJ2_checkIndex_2214a 2 = .ok (.invokestatic 48, 3) := by decide +kernel
theorem dJ2_checkIndex_2214a_5 : decode cJ2_checkIndex_2214a 5 = .ok (.invokestatic 414, 3) := by decide +kernel
theorem dJ2_checkIndex_2214a_8 : decode cJ2_checkIndex_2214a 8 = .ok (.return_, 1) := by decide +kernel
theorem dJ3_checkIndex_8e157_0 : decode cJ3_checkIndex_8e157 0 = .ok (.iload_n 0, 1) := by decide +kernel
theorem dJ3_checkIndex_8e157_1 : decode cJ3_checkIndex_8e157 1 = .ok (.ifCond .lt 8, 3) := by decide +kernel
theorem dJ3_checkIndex_8e157_4 : decode cJ3_checkIndex_8e157 4 = .ok (.iload_n 0, 1) := by decide +kernel
theorem dJ3_checkIndex_8e157_5 : decode cJ3_checkIndex_8e157 5 = .ok (.iload_n 1, 1) := by decide +kernel
theorem dJ3_checkIndex_8e157_6 : decode cJ3_checkIndex_8e157 6 = .ok (.if_icmp .lt 10, 3) := by decide +kernel
theorem dJ3_checkIndex_8e157_9 : decode cJ3_checkIndex_8e157 9 = .ok (.aload_n 2, 1) := by decide +kernel
theorem dJ3_checkIndex_8e157_10 : decode cJ3_checkIndex_8e157 10 = .ok (.iload_n 0, 1) := by decide +kernel
theorem dJ3_checkIndex_8e157_11 : decode cJ3_checkIndex_8e157 11 = .ok (.iload_n 1, 1) := by decide +kernel
theorem dJ3_checkIndex_8e157_12 : decode cJ3_checkIndex_8e157 12 = .ok (.invokestatic 95, 3) := by decide +kernel
theorem dJ3_checkIndex_8e157_15 : decode cJ3_checkIndex_8e157 15 = .ok (.athrow, 1) := by decide +kernel
theorem dJ3_checkIndex_8e157_16 : decode cJ3_checkIndex_8e157 16 = .ok (.iload_n 0, 1) := by decide +kernel
theorem dJ3_checkIndex_8e157_17 : decode cJ3_checkIndex_8e157 17 = .ok (.ireturn, 1) := by decide +kernel
