theorem dX6_init_0 : decode cX6_init 0 = .ok (.aload_n 0, 1) := by decide +kernel
theorem dX6_init_1 : decode cX6_init 1 = .ok (.invokespecial 5, 3) := by decide +kernel
theorem dX6_init_4 : decode cX6_init 4 = .ok (.aload_n 0, 1) := by decide +kernel
theorem dX6_init_5 : decode cX6_init 5 = .ok (.new 11, 3) := by decide +kernel
theorem dX6_init_8 : decode cX6_init 8 = .ok (.dup, 1) := by decide +kernel
theorem dX6_init_9 : decode cX6_init 9 = .ok (.invokespecial 13, 3) := by decide +kernel
theorem dX6_init_12 : decode cX6_init 12 = .ok (.putfield 14, 3) := by decide +kernel
theorem dX6_init_15 : decode cX6_init 15 = .ok (.aload_n 0, 1) := by decide +kernel
theorem dX6_init_16 : decode cX6_init 16 = .ok (.bipush 20, 2) := by decide +kernel
theorem dX6_init_18 : decode cX6_init 18 = .ok (.newarray .int, 2) := by decide +kernel
theorem dX6_init_20 : decode cX6_init 20 = .ok (.putfield 22, 3) := by decide +kernel
theorem dX6_init_23 : decode cX6_init 23 = .ok (.aload_n 0, 1) := by decide +kernel
theorem dX6_init_24 : decode cX6_init 24 = .ok (.bipush 20, 2) := by decide +kernel
theorem dX6_init_26 : decode cX6_init 26 = .ok (.newarray .int, 2) := by decide +kernel
theorem dX6_init_28 : decode cX6_init 28 = .ok (.putfield 26, 3) := by decide +kernel
theorem dX6_init_31 : decode cX6_init 31 = .ok (.aload_n 0, 1) := by decide +kernel
theorem dX6_init_32 : decode cX6_init 32 = .ok (.aload_n 1, 1) := by decide +kernel
theorem dX6_init_33 : decode cX6_init 33 = .ok (.putfield 29, 3) := by decide +kernel
theorem dX6_init_36 : decode cX6_init 36 = .ok (.aload_n 0, 1) := by decide +kernel
theorem dX6_init_37 : decode cX6_init 37 = .ok (.new 1, 3) := by decide +kernel
theorem dX6_init_40 : decode cX6_init 40 = .ok (.dup, 1) := by decide +kernel
theorem dX6_init_41 : decode cX6_init 41 = .ok (.invokespecial 33, 3) := by decide +kernel
theorem dX6_init_44 : decode cX6_init 44 = .ok (.putfield 34, 3) := by decide +kernel
theorem dX6_init_47 : decode cX6_init 47 = .ok (.return_, 1) := by decide +kernel
theorem dX6_readAll_0 : decode cX6_readAll 0 = .ok (.iconst 0, 1) := by decide +kernel
theorem dX6_readAll_1 : decode cX6_readAll 1 = .ok (.istore_n 3, 1) := by decide +kernel
theorem dX6_readAll_2 : decode cX6_readAll 2 = .ok (.iload_n 3, 1) := by decide +kernel
theorem dX6_readAll_3 : decode cX6_readAll 3 = .ok (.aload_n 0, 1) := by decide +kernel
theorem dX6_readAll_4 : decode cX6_readAll 4 = .ok (.getfield 29, 3) := by decide +kernel
theorem dX6_readAll_7 : decode cX6_readAll 7 = .ok (.invokevirtual 38, 3) := by decide +kernel
theorem dX6_readAll_10 : decode cX6_readAll 10 = .ok (.if_icmp .ge 80, 3) := by decide +kernel
theorem dX6_readAll_13 : decode cX6_readAll 13 = .ok (.aload_n 0, 1) := by decide +kernel
theorem dX6_readAll_14 : decode cX6_readAll 14 = .ok (.getfield 29, 3) := by decide +kernel
theorem dX6_readAll_17 : decode cX6_readAll 17 = .ok (.iload_n 3, 1) := by decide +kernel
theorem dX6_readAll_18 : decode cX6_readAll 18 = .ok (.invokevirtual 42, 3) := by decide +kernel
theorem dX6_readAll_21 : decode cX6_readAll 21 = .ok (.istore 4, 2) := by decide +kernel
theorem dX6_readAll_23 : decode cX6_readAll 23 = .ok (.aload_n 0, 1) := by decide +kernel
theorem dX6_readAll_24 : decode cX6_readAll 24 = .ok (.getfield 14, 3) := by decide +kernel
theorem dX6_readAll_27 : decode cX6_readAll 27 = .ok (.iload_n 1, 1) := by decide +kernel
theorem dX6_readAll_28 : decode cX6_readAll 28 = .ok (.iload_n 2, 1) := by decide +kernel
theorem dX6_readAll_29 : decode cX6_readAll 29 = .ok (.invokevirtual 46, 3) := by decide +kernel
theorem dX6_readAll_32 : decode cX6_readAll 32 = .ok (.aload_n 0, 1) := by decide +kernel
theorem dX6_readAll_33 : decode cX6_readAll 33 = .ok (.aload_n 0, 1) := by decide +kernel
theorem dX6_readAll_34 : decode cX6_readAll 34 = .ok (.getfield 29, 3) := by decide +kernel
theorem dX6_readAll_37 : decode cX6_readAll 37 = .ok (.iload 4, 2) := by decide +kernel
theorem dX6_readAll_39 : decode cX6_readAll 39 = .ok (.invokevirtual 50, 3) := by decide +kernel
theorem dX6_readAll_42 : decode cX6_readAll 42 = .ok (.putfield 34, 3) := by decide +kernel
theorem dX6_readAll_45 : decode cX6_readAll 45 = .ok (.aload_n 0, 1) := by decide +kernel
theorem dX6_readAll_46 : decode cX6_readAll 46 = .ok (.iconst 0, 1) := by decide +kernel
theorem dX6_readAll_47 : decode cX6_readAll 47 = .ok (.putfield 53, 3) := by decide +kernel
theorem dX6_readAll_50 : decode cX6_readAll 50 = .ok (.aload_n 0, 1) := by decide +kernel
theorem dX6_readAll_51 : decode cX6_readAll 51 = .ok (.invokevirtual 57, 3) := by decide +kernel
theorem dX6_readAll_54 : decode cX6_readAll 54 = .ok (.aload_n 0, 1) := by decide +kernel
theorem dX6_readAll_55 : decode cX6_readAll 55 = .ok (.iconst 1, 1) := by decide +kernel
theorem dX6_readAll_56 : decode cX6_readAll 56 = .ok (.iconst 0, 1) := by decide +kernel
theorem dX6_readAll_57 : decode cX6_readAll 57 = .ok (.invokevirtual 60, 3) := by decide +kernel
theorem dX6_readAll_60 : decode cX6_readAll 60 = .ok (.aload_n 0, 1) := by decide +kernel
theorem dX6_readAll_61 : decode cX6_readAll 61 = .ok (.getfield 22, 3) := by decide +kernel
theorem dX6_readAll_64 : decode cX6_readAll 64 = .ok (.iload 4, 2) := by decide +kernel
theorem dX6_readAll_66 : decode cX6_readAll 66 = .ok (.aload_n 0, 1) := by decide +kernel
theorem dX6_readAll_67 : decode cX6_readAll 67 = .ok (.getfield 29, 3) := by decide +kernel
theorem dX6_readAll_70 : decode cX6_readAll 70 = .ok (.iload 4, 2) := by decide +kernel
theorem dX6_readAll_72 : decode cX6_readAll 72 = .ok (.iload_n 1, 1) := by decide +kernel
theorem dX6_readAll_73 : decode cX6_readAll 73 = .ok (.aload_n 0, 1) := by decide +kernel
theorem dX6_readAll_74 : decode cX6_readAll 74 = .ok (.getfield 14, 3) := by decide +kernel
theorem dX6_readAll_77 : decode cX6_readAll 77 = .ok (.invokevirtual 64, 3) := by decide +kernel
theorem dX6_readAll_80 : decode cX6_readAll 80 = .ok (.invokevirtual 67, 3) := by decide +kernel
theorem dX6_readAll_83 : decode cX6_readAll 83 = .ok (.iastore, 1) := by decide +kernel
theorem dX6_readAll_84 : decode cX6_readAll 84 = .ok (.iinc 3 1, 3) := by decide +kernel
theorem dX6_readAll_87 : decode cX6_readAll 87 = .ok (.goto (-85), 3) := by decide +kernel
theorem dX6_readAll_90 : decode cX6_readAll 90 = .ok (.return_, 1) := by decide +kernel
theorem dX6_readStart_0 : decode cX6_readStart 0 = .ok (.aload_n 0, 1) := by decide +kernel
theorem dX6_readStart_1 : decode cX6_readStart 1 = .ok (.invokevirtual 71, 3) := by decide +kernel
theorem dX6_readStart_4 : decode cX6_readStart 4 = .ok (.lookupswitch 102 #[(68, 36), (76, 80), (78, 51)], 36) := by decide +kernel
theorem dX6_readStart_40 : decode cX6_readStart 40 = .ok (.aload_n 0, 1) := by decide +kernel
theorem dX6_readStart_41 : decode cX6_readStart 41 = .ok (.getfield 14, 3) := by decide +kernel
theorem dX6_readStart_44 : decode cX6_readStart 44 = .ok (.aload_n 0, 1) := by decide +kernel
theorem dX6_readStart_45 : decode cX6_readStart 45 = .ok (.iconst 4, 1) := by decide +kernel
theorem dX6_readStart_46 : decode cX6_readStart 46 = .ok (.invokevirtual 75, 3) := by decide +kernel
theorem dX6_readStart_49 : decode cX6_readStart 49 = .ok (.invokevirtual 78, 3) := by decide +kernel
theorem dX6_readStart_52 : decode cX6_readStart 52 = .ok (.goto 70, 3) := by decide +kernel
theorem dX6_readStart_55 : decode cX6_readStart 55 = .ok (.aload_n 0, 1) := by decide +kernel
theorem dX6_readStart_56 : decode cX6_readStart 56 = .ok (.iconst 1, 1) := by decide +kernel
theorem dX6_readStart_57 : decode cX6_readStart 57 = .ok (.invokevirtual 75, 3) := by decide +kernel
theorem dX6_readStart_60 : decode cX6_readStart 60 = .ok (.istore_n 1, 1) := by decide +kernel
theorem dX6_readStart_61 : decode cX6_readStart 61 = .ok (.aload_n 0, 1) := by decide +kernel
theorem dX6_readStart_62 : decode cX6_readStart 62 = .ok (.iconst 1, 1) := by decide +kernel
theorem dX6_readStart_63 : decode cX6_readStart 63 = .ok (.invokevirtual 75, 3) := by decide +kernel
theorem dX6_readStart_66 : decode cX6_readStart 66 = .ok (.istore_n 2, 1) := by decide +kernel
theorem dX6_readStart_67 : decode cX6_readStart 67 = .ok (.aload_n 0, 1) := by decide +kernel
theorem dX6_readStart_68 : decode cX6_readStart 68 = .ok (.getfield 14, 3) := by decide +kernel
theorem dX6_readStart_71 : decode cX6_readStart 71 = .ok (.iload_n 1, 1) := by decide +kernel
theorem dX6_readStart_72 : decode cX6_readStart 72 = .ok (.iload_n 2, 1) := by decide +kernel
theorem dX6_readStart_73 : decode cX6_readStart 73 = .ok (.aload_n 0, 1) := by decide +kernel
theorem dX6_readStart_74 : decode cX6_readStart 74 = .ok (.iconst 2, 1) := by decide +kernel
theorem dX6_readStart_75 : decode cX6_readStart 75 = .ok (.invokevirtual 75, 3) := by decide +kernel
theorem dX6_readStart_78 : decode cX6_readStart 78 = .ok (.invokevirtual 82, 3) := by decide +kernel
theorem dX6_readStart_81 : decode cX6_readStart 81 = .ok (.goto 41, 3) := by decide +kernel
theorem dX6_readStart_84 : decode cX6_readStart 84 = .ok (.aload_n 0, 1) := by decide +kernel
theorem dX6_readStart_85 : decode cX6_readStart 85 = .ok (.iconst 1, 1) := by decide +kernel
theorem dX6_readStart_86 : decode cX6_readStart 86 = .ok (.invokevirtual 75, 3) := by decide +kernel
theorem dX6_readStart_89 : decode cX6_readStart 89 = .ok (.istore_n 3, 1) := by decide +kernel
theorem dX6_readStart_90 : decode cX6_readStart 90 = .ok (.aload_n 0, 1) := by decide +kernel
theorem dX6_readStart_91 : decode cX6_readStart 91 = .ok (.getfield 14, 3) := by decide +kernel
theorem dX6_readStart_94 : decode cX6_readStart 94 = .ok (.iload_n 3, 1) := by decide +kernel
theorem dX6_readStart_95 : decode cX6_readStart 95 = .ok (.aload_n 0, 1) := by decide +kernel
theorem dX6_readStart_96 : decode cX6_readStart 96 = .ok (.iconst 2, 1) := by decide +kernel
theorem dX6_readStart_97 : decode cX6_readStart 97 = .ok (.invokevirtual 75, 3) := by decide +kernel
theorem dX6_readStart_100 : decode cX6_readStart 100 = .ok (.invokevirtual 86, 3) := by decide +kernel
theorem dX6_readStart_103 : decode cX6_readStart 103 = .ok (.goto 19, 3) := by decide +kernel
theorem dX6_readStart_106 : decode cX6_readStart 106 = .ok (.aload_n 0, 1) := by decide +kernel
theorem dX6_readStart_107 : decode cX6_readStart 107 = .ok (.getfield 14, 3) := by decide +kernel
theorem dX6_readStart_110 : decode cX6_readStart 110 = .ok (.aload_n 0, 1) := by decide +kernel
theorem dX6_readStart_111 : decode cX6_readStart 111 = .ok (.aload_n 0, 1) := by decide +kernel
theorem dX6_readStart_112 : decode cX6_readStart 112 = .ok (.iconst 2, 1) := by decide +kernel
theorem dX6_readStart_113 : decode cX6_readStart 113 = .ok (.invokevirtual 75, 3) := by decide +kernel
theorem dX6_readStart_116 : decode cX6_readStart 116 = .ok (.invokevirtual 89, 3) := by decide +kernel
theorem dX6_readStart_119 : decode cX6_readStart 119 = .ok (.invokevirtual 92, 3) := by decide +kernel
theorem dX6_readStart_122 : decode cX6_readStart 122 = .ok (.return_, 1) := by decide +kernel
theorem dX6_readSteps_0 : decode cX6_readSteps 0 = .ok (.iconst 0, 1) := by decide +kernel
theorem dX6_readSteps_1 : decode cX6_readSteps 1 = .ok (.istore_n 3, 1) := by decide +kernel
theorem dX6_readSteps_2 : decode cX6_readSteps 2 = .ok (.iload_n 3, 1) := by decide +kernel
theorem dX6_readSteps_3 : decode cX6_readSteps 3 = .ok (.bipush 40, 2) := by decide +kernel
theorem dX6_readSteps_5 : decode cX6_readSteps 5 = .ok (.if_icmp .ge 108, 3) := by decide +kernel
theorem dX6_readSteps_8 : decode cX6_readSteps 8 = .ok (.iload_n 2, 1) := by decide +kernel
theorem dX6_readSteps_9 : decode cX6_readSteps 9 = .ok (.bipush 41, 2) := by decide +kernel
theorem dX6_readSteps_11 : decode cX6_readSteps 11 = .ok (.if_icmp .gt 102, 3) := by decide +kernel
theorem dX6_readSteps_14 : decode cX6_readSteps 14 = .ok (.aload_n 0, 1) := by decide +kernel
theorem dX6_readSteps_15 : decode cX6_readSteps 15 = .ok (.getfield 34, 3) := by decide +kernel
theorem dX6_readSteps_18 : decode cX6_readSteps 18 = .ok (.aload_n 0, 1) := by decide +kernel
theorem dX6_readSteps_19 : decode cX6_readSteps 19 = .ok (.getfield 53, 3) := by decide +kernel
theorem dX6_readSteps_22 : decode cX6_readSteps 22 = .ok (.invokevirtual 95, 3) := by decide +kernel
theorem dX6_readSteps_25 : decode cX6_readSteps 25 = .ok (.istore 4, 2) := by decide +kernel
theorem dX6_readSteps_27 : decode cX6_readSteps 27 = .ok (.iload 4, 2) := by decide +kernel
theorem dX6_readSteps_29 : decode cX6_readSteps 29 = .ok (.bipush 125, 2) := by decide +kernel
theorem dX6_readSteps_31 : decode cX6_readSteps 31 = .ok (.if_icmp .eq 8, 3) := by decide +kernel
theorem dX6_readSteps_34 : decode cX6_readSteps 34 = .ok (.iload 4, 2) := by decide +kernel
theorem dX6_readSteps_36 : decode cX6_readSteps 36 = .ok (.ifCond .ne 4, 3) := by decide +kernel
theorem dX6_readSteps_39 : decode cX6_readSteps 39 = .ok (.return_, 1) := by decide +kernel
theorem dX6_readSteps_40 : decode cX6_readSteps 40 = .ok (.iload 4, 2) := by decide +kernel
theorem dX6_readSteps_42 : decode cX6_readSteps 42 = .ok (.bipush 63, 2) := by decide +kernel
theorem dX6_readSteps_44 : decode cX6_readSteps 44 = .ok (.if_icmp .ne 24, 3) := by decide +kernel
theorem dX6_readSteps_47 : decode cX6_readSteps 47 = .ok (.aload_n 0, 1) := by decide +kernel
theorem dX6_readSteps_48 : decode cX6_readSteps 48 = .ok (.dup, 1) := by decide +kernel
theorem dX6_readSteps_49 : decode cX6_readSteps 49 = .ok (.getfield 53, 3) := by decide +kernel
theorem dX6_readSteps_52 : decode cX6_readSteps 52 = .ok (.iconst 1, 1) := by decide +kernel
theorem dX6_readSteps_53 : decode cX6_readSteps 53 = .ok (.iadd, 1) := by decide +kernel
theorem dX6_readSteps_54 : decode cX6_readSteps 54 = .ok (.putfield 53, 3) := by decide +kernel
theorem dX6_readSteps_57 : decode cX6_readSteps 57 = .ok (.aload_n 0, 1) := by decide +kernel
theorem dX6_readSteps_58 : decode cX6_readSteps 58 = .ok (.iload_n 1, 1) := by decide +kernel
theorem dX6_readSteps_59 : decode cX6_readSteps 59 = .ok (.iload_n 2, 1) := by decide +kernel
theorem dX6_readSteps_60 : decode cX6_readSteps 60 = .ok (.iconst 1, 1) := by decide +kernel
theorem dX6_readSteps_61 : decode cX6_readSteps 61 = .ok (.iadd, 1) := by decide +kernel
theorem dX6_readSteps_62 : decode cX6_readSteps 62 = .ok (.invokevirtual 99, 3) := by decide +kernel
theorem dX6_readSteps_65 : decode cX6_readSteps 65 = .ok (.goto 42, 3) := by decide +kernel
theorem dX6_readSteps_68 : decode cX6_readSteps 68 = .ok (.iload 4, 2) := by decide +kernel
theorem dX6_readSteps_70 : decode cX6_readSteps 70 = .ok (.bipush 43, 2) := by decide +kernel
theorem dX6_readSteps_72 : decode cX6_readSteps 72 = .ok (.if_icmp .eq 10, 3) := by decide +kernel
theorem dX6_readSteps_75 : decode cX6_readSteps 75 = .ok (.iload 4, 2) := by decide +kernel
theorem dX6_readSteps_77 : decode cX6_readSteps 77 = .ok (.bipush 45, 2) := by decide +kernel
theorem dX6_readSteps_79 : decode cX6_readSteps 79 = .ok (.if_icmp .ne 11, 3) := by decide +kernel
theorem dX6_readSteps_82 : decode cX6_readSteps 82 = .ok (.aload_n 0, 1) := by decide +kernel
theorem dX6_readSteps_83 : decode cX6_readSteps 83 = .ok (.iload_n 1, 1) := by decide +kernel
theorem dX6_readSteps_84 : decode cX6_readSteps 84 = .ok (.invokevirtual 102, 3) := by decide +kernel
theorem dX6_readSteps_87 : decode cX6_readSteps 87 = .ok (.goto 20, 3) := by decide +kernel
theorem dX6_readSteps_90 : decode cX6_readSteps 90 = .ok (.aload_n 0, 1) := by decide +kernel
theorem dX6_readSteps_91 : decode cX6_readSteps 91 = .ok (.dup, 1) := by decide +kernel
theorem dX6_readSteps_92 : decode cX6_readSteps 92 = .ok (.getfield 53, 3) := by decide +kernel
theorem dX6_readSteps_95 : decode cX6_readSteps 95 = .ok (.iconst 1, 1) := by decide +kernel
theorem dX6_readSteps_96 : decode cX6_readSteps 96 = .ok (.iadd, 1) := by decide +kernel
theorem dX6_readSteps_97 : decode cX6_readSteps 97 = .ok (.putfield 53, 3) := by decide +kernel
theorem dX6_readSteps_100 : decode cX6_readSteps 100 = .ok (.aload_n 0, 1) := by decide +kernel
theorem dX6_readSteps_101 : decode cX6_readSteps 101 = .ok (.iload 4, 2) := by decide +kernel
theorem dX6_readSteps_103 : decode cX6_readSteps 103 = .ok (.iload_n 1, 1) := by decide +kernel
theorem dX6_readSteps_104 : decode cX6_readSteps 104 = .ok (.invokevirtual 106, 3) := by decide +kernel
theorem dX6_readSteps_107 : decode cX6_readSteps 107 = .ok (.iinc 3 1, 3) := by decide +kernel
theorem dX6_readSteps_110 : decode cX6_readSteps 110 = .ok (.goto (-108), 3) := by decide +kernel
theorem dX6_readSteps_113 : decode cX6_readSteps 113 = .ok (.return_, 1) := by decide +kernel
theorem dX6_readBranch_0 : decode cX6_readBranch 0 = .ok (.aload_n 0, 1) := by decide +kernel
theorem dX6_readBranch_1 : decode cX6_readBranch 1 = .ok (.iload_n 2, 1) := by decide +kernel
theorem dX6_readBranch_2 : decode cX6_readBranch 2 = .ok (.invokevirtual 110, 3) := by decide +kernel
theorem dX6_readBranch_5 : decode cX6_readBranch 5 = .ok (.istore_n 3, 1) := by decide +kernel
theorem dX6_readBranch_6 : decode cX6_readBranch 6 = .ok (.aload_n 0, 1) := by decide +kernel
theorem dX6_readBranch_7 : decode cX6_readBranch 7 = .ok (.dup, 1) := by decide +kernel
theorem dX6_readBranch_8 : decode cX6_readBranch 8 = .ok (.getfield 53, 3) := by decide +kernel
theorem dX6_readBranch_11 : decode cX6_readBranch 11 = .ok (.iconst 1, 1) := by decide +kernel
theorem dX6_readBranch_12 : decode cX6_readBranch 12 = .ok (.iadd, 1) := by decide +kernel
theorem dX6_readBranch_13 : decode cX6_readBranch 13 = .ok (.putfield 53, 3) := by decide +kernel
theorem dX6_readBranch_16 : decode cX6_readBranch 16 = .ok (.aload_n 0, 1) := by decide +kernel
theorem dX6_readBranch_17 : decode cX6_readBranch 17 = .ok (.iload_n 1, 1) := by decide +kernel
theorem dX6_readBranch_18 : decode cX6_readBranch 18 = .ok (.ifCond .eq 11, 3) := by decide +kernel
theorem dX6_readBranch_21 : decode cX6_readBranch 21 = .ok (.iload_n 3, 1) := by decide +kernel
theorem dX6_readBranch_22 : decode cX6_readBranch 22 = .ok (.ifCond .eq 7, 3) := by decide +kernel
theorem dX6_readBranch_25 : decode cX6_readBranch 25 = .ok (.iconst 1, 1) := by decide +kernel
theorem dX6_readBranch_26 : decode cX6_readBranch 26 = .ok (.goto 4, 3) := by decide +kernel
theorem dX6_readBranch_29 : decode cX6_readBranch 29 = .ok (.iconst 0, 1) := by decide +kernel
theorem dX6_readBranch_30 : decode cX6_readBranch 30 = .ok (.iload_n 2, 1) := by decide +kernel
theorem dX6_readBranch_31 : decode cX6_readBranch 31 = .ok (.invokevirtual 60, 3) := by decide +kernel
theorem dX6_readBranch_34 : decode cX6_readBranch 34 = .ok (.aload_n 0, 1) := by decide +kernel
theorem dX6_readBranch_35 : decode cX6_readBranch 35 = .ok (.dup, 1) := by decide +kernel
theorem dX6_readBranch_36 : decode cX6_readBranch 36 = .ok (.getfield 53, 3) := by decide +kernel
theorem dX6_readBranch_39 : decode cX6_readBranch 39 = .ok (.iconst 1, 1) := by decide +kernel
theorem dX6_readBranch_40 : decode cX6_readBranch 40 = .ok (.iadd, 1) := by decide +kernel
theorem dX6_readBranch_41 : decode cX6_readBranch 41 = .ok (.putfield 53, 3) := by decide +kernel
theorem dX6_readBranch_44 : decode cX6_readBranch 44 = .ok (.aload_n 0, 1) := by decide +kernel
theorem dX6_readBranch_45 : decode cX6_readBranch 45 = .ok (.getfield 34, 3) := by decide +kernel
theorem dX6_readBranch_48 : decode cX6_readBranch 48 = .ok (.aload_n 0, 1) := by decide +kernel
theorem dX6_readBranch_49 : decode cX6_readBranch 49 = .ok (.getfield 53, 3) := by decide +kernel
theorem dX6_readBranch_52 : decode cX6_readBranch 52 = .ok (.invokevirtual 95, 3) := by decide +kernel
theorem dX6_readBranch_55 : decode cX6_readBranch 55 = .ok (.bipush 123, 2) := by decide +kernel
theorem dX6_readBranch_57 : decode cX6_readBranch 57 = .ok (.if_icmp .ne 41, 3) := by decide +kernel
theorem dX6_readBranch_60 : decode cX6_readBranch 60 = .ok (.aload_n 0, 1) := by decide +kernel
theorem dX6_readBranch_61 : decode cX6_readBranch 61 = .ok (.dup, 1) := by decide +kernel
theorem dX6_readBranch_62 : decode cX6_readBranch 62 = .ok (.getfield 53, 3) := by decide +kernel
theorem dX6_readBranch_65 : decode cX6_readBranch 65 = .ok (.iconst 1, 1) := by decide +kernel
theorem dX6_readBranch_66 : decode cX6_readBranch 66 = .ok (.iadd, 1) := by decide +kernel
theorem dX6_readBranch_67 : decode cX6_readBranch 67 = .ok (.putfield 53, 3) := by decide +kernel
theorem dX6_readBranch_70 : decode cX6_readBranch 70 = .ok (.aload_n 0, 1) := by decide +kernel
theorem dX6_readBranch_71 : decode cX6_readBranch 71 = .ok (.iload_n 1, 1) := by decide +kernel
theorem dX6_readBranch_72 : decode cX6_readBranch 72 = .ok (.ifCond .eq 11, 3) := by decide +kernel
theorem dX6_readBranch_75 : decode cX6_readBranch 75 = .ok (.iload_n 3, 1) := by decide +kernel
theorem dX6_readBranch_76 : decode cX6_readBranch 76 = .ok (.ifCond .ne 7, 3) := by decide +kernel
theorem dX6_readBranch_79 : decode cX6_readBranch 79 = .ok (.iconst 1, 1) := by decide +kernel
theorem dX6_readBranch_80 : decode cX6_readBranch 80 = .ok (.goto 4, 3) := by decide +kernel
theorem dX6_readBranch_83 : decode cX6_readBranch 83 = .ok (.iconst 0, 1) := by decide +kernel
theorem dX6_readBranch_84 : decode cX6_readBranch 84 = .ok (.iload_n 2, 1) := by decide +kernel
theorem dX6_readBranch_85 : decode cX6_readBranch 85 = .ok (.invokevirtual 60, 3) := by decide +kernel
theorem dX6_readBranch_88 : decode cX6_readBranch 88 = .ok (.aload_n 0, 1) := by decide +kernel
theorem dX6_readBranch_89 : decode cX6_readBranch 89 = .ok (.dup, 1) := by decide +kernel
theorem dX6_readBranch_90 : decode cX6_readBranch 90 = .ok (.getfield 53, 3) := by decide +kernel
theorem dX6_readBranch_93 : decode cX6_readBranch 93 = .ok (.iconst 1, 1) := by decide +kernel
theorem dX6_readBranch_94 : decode cX6_readBranch 94 = .ok (.iadd, 1) := by decide +kernel
theorem dX6_readBranch_95 : decode cX6_readBranch 95 = .ok (.putfield 53, 3) := by decide +kernel
theorem dX6_readBranch_98 : decode cX6_readBranch 98 = .ok (.return_, 1) := by decide +kernel
theorem dX6_readDays_0 : decode cX6_readDays 0 = .ok (.iconst 0, 1) := by decide +kernel
theorem dX6_readDays_1 : decode cX6_readDays 1 = .ok (.istore_n 2, 1) := by decide +kernel
theorem dX6_readDays_2 : decode cX6_readDays 2 = .ok (.iconst 0, 1) := by decide +kernel
theorem dX6_readDays_3 : decode cX6_readDays 3 = .ok (.istore_n 3, 1) := by decide +kernel
theorem dX6_readDays_4 : decode cX6_readDays 4 = .ok (.iload_n 3, 1) := by decide +kernel
theorem dX6_readDays_5 : decode cX6_readDays 5 = .ok (.bipush 40, 2) := by decide +kernel
theorem dX6_readDays_7 : decode cX6_readDays 7 = .ok (.if_icmp .ge 80, 3) := by decide +kernel
theorem dX6_readDays_10 : decode cX6_readDays 10 = .ok (.aload_n 0, 1) := by decide +kernel
theorem dX6_readDays_11 : decode cX6_readDays 11 = .ok (.getfield 34, 3) := by decide +kernel
theorem dX6_readDays_14 : decode cX6_readDays 14 = .ok (.aload_n 0, 1) := by decide +kernel
theorem dX6_readDays_15 : decode cX6_readDays 15 = .ok (.getfield 53, 3) := by decide +kernel
theorem dX6_readDays_18 : decode cX6_readDays 18 = .ok (.invokevirtual 95, 3) := by decide +kernel
theorem dX6_readDays_21 : decode cX6_readDays 21 = .ok (.bipush 43, 2) := by decide +kernel
theorem dX6_readDays_23 : decode cX6_readDays 23 = .ok (.if_icmp .eq 19, 3) := by decide +kernel
theorem dX6_readDays_26 : decode cX6_readDays 26 = .ok (.aload_n 0, 1) := by decide +kernel
theorem dX6_readDays_27 : decode cX6_readDays 27 = .ok (.getfield 34, 3) := by decide +kernel
theorem dX6_readDays_30 : decode cX6_readDays 30 = .ok (.aload_n 0, 1) := by decide +kernel
theorem dX6_readDays_31 : decode cX6_readDays 31 = .ok (.getfield 53, 3) := by decide +kernel
theorem dX6_readDays_34 : decode cX6_readDays 34 = .ok (.invokevirtual 95, 3) := by decide +kernel
theorem dX6_readDays_37 : decode cX6_readDays 37 = .ok (.bipush 45, 2) := by decide +kernel
theorem dX6_readDays_39 : decode cX6_readDays 39 = .ok (.if_icmp .ne 48, 3) := by decide +kernel
theorem dX6_readDays_42 : decode cX6_readDays 42 = .ok (.aload_n 0, 1) := by decide +kernel
theorem dX6_readDays_43 : decode cX6_readDays 43 = .ok (.invokevirtual 71, 3) := by decide +kernel
theorem dX6_readDays_46 : decode cX6_readDays 46 = .ok (.bipush 43, 2) := by decide +kernel
theorem dX6_readDays_48 : decode cX6_readDays 48 = .ok (.if_icmp .ne 7, 3) := by decide +kernel
theorem dX6_readDays_51 : decode cX6_readDays 51 = .ok (.iconst 1, 1) := by decide +kernel
theorem dX6_readDays_52 : decode cX6_readDays 52 = .ok (.goto 4, 3) := by decide +kernel
theorem dX6_readDays_55 : decode cX6_readDays 55 = .ok (.iconst 0, 1) := by decide +kernel
theorem dX6_readDays_56 : decode cX6_readDays 56 = .ok (.istore 4, 2) := by decide +kernel
theorem dX6_readDays_58 : decode cX6_readDays 58 = .ok (.aload_n 0, 1) := by decide +kernel
theorem dX6_readDays_59 : decode cX6_readDays 59 = .ok (.iconst 3, 1) := by decide +kernel
theorem dX6_readDays_60 : decode cX6_readDays 60 = .ok (.invokevirtual 75, 3) := by decide +kernel
theorem dX6_readDays_63 : decode cX6_readDays 63 = .ok (.istore 5, 2) := by decide +kernel
theorem dX6_readDays_65 : decode cX6_readDays 65 = .ok (.iload_n 2, 1) := by decide +kernel
theorem dX6_readDays_66 : decode cX6_readDays 66 = .ok (.iload 4, 2) := by decide +kernel
theorem dX6_readDays_68 : decode cX6_readDays 68 = .ok (.ifCond .eq 8, 3) := by decide +kernel
theorem dX6_readDays_71 : decode cX6_readDays 71 = .ok (.iload 5, 2) := by decide +kernel
theorem dX6_readDays_73 : decode cX6_readDays 73 = .ok (.goto 6, 3) := by decide +kernel
theorem dX6_readDays_76 : decode cX6_readDays 76 = .ok (.iload 5, 2) := by decide +kernel
theorem dX6_readDays_78 : decode cX6_readDays 78 = .ok (.ineg, 1) := by decide +kernel
theorem dX6_readDays_79 : decode cX6_readDays 79 = .ok (.iadd, 1) := by decide +kernel
theorem dX6_readDays_80 : decode cX6_readDays 80 = .ok (.istore_n 2, 1) := by decide +kernel
theorem dX6_readDays_81 : decode cX6_readDays 81 = .ok (.iinc 3 1, 3) := by decide +kernel
theorem dX6_readDays_84 : decode cX6_readDays 84 = .ok (.goto (-80), 3) := by decide +kernel
theorem dX6_readDays_87 : decode cX6_readDays 87 = .ok (.iload_n 1, 1) := by decide +kernel
theorem dX6_readDays_88 : decode cX6_readDays 88 = .ok (.ifCond .eq 11, 3) := by decide +kernel
theorem dX6_readDays_91 : decode cX6_readDays 91 = .ok (.aload_n 0, 1) := by decide +kernel
theorem dX6_readDays_92 : decode cX6_readDays 92 = .ok (.getfield 14, 3) := by decide +kernel
theorem dX6_readDays_95 : decode cX6_readDays 95 = .ok (.iload_n 2, 1) := by decide +kernel
theorem dX6_readDays_96 : decode cX6_readDays 96 = .ok (.invokevirtual 114, 3) := by decide +kernel
theorem dX6_readDays_99 : decode cX6_readDays 99 = .ok (.return_, 1) := by decide +kernel
theorem dX6_readMove_0 : decode cX6_readMove 0 = .ok (.iload_n 1, 1) := by decide +kernel
theorem dX6_readMove_1 : decode cX6_readMove 1 = .ok (.bipush 62, 2) := by decide +kernel
theorem dX6_readMove_3 : decode cX6_readMove 3 = .ok (.if_icmp .eq 21, 3) := by decide +kernel
theorem dX6_readMove_6 : decode cX6_readMove 6 = .ok (.iload_n 1, 1) := by decide +kernel
theorem dX6_readMove_7 : decode cX6_readMove 7 = .ok (.bipush 60, 2) := by decide +kernel
theorem dX6_readMove_9 : decode cX6_readMove 9 = .ok (.if_icmp .eq 15, 3) := by decide +kernel
theorem dX6_readMove_12 : decode cX6_readMove 12 = .ok (.iload_n 1, 1) := by decide +kernel
theorem dX6_readMove_13 : decode cX6_readMove 13 = .ok (.bipush 93, 2) := by decide +kernel
theorem dX6_readMove_15 : decode cX6_readMove 15 = .ok (.if_icmp .eq 9, 3) := by decide +kernel
theorem dX6_readMove_18 : decode cX6_readMove 18 = .ok (.iload_n 1, 1) := by decide +kernel
theorem dX6_readMove_19 : decode cX6_readMove 19 = .ok (.bipush 91, 2) := by decide +kernel
theorem dX6_readMove_21 : decode cX6_readMove 21 = .ok (.if_icmp .ne 7, 3) := by decide +kernel
theorem dX6_readMove_24 : decode cX6_readMove 24 = .ok (.iconst 1, 1) := by decide +kernel
theorem dX6_readMove_25 : decode cX6_readMove 25 = .ok (.goto 4, 3) := by decide +kernel
theorem dX6_readMove_28 : decode cX6_readMove 28 = .ok (.iconst 0, 1) := by decide +kernel
theorem dX6_readMove_29 : decode cX6_readMove 29 = .ok (.istore_n 3, 1) := by decide +kernel
theorem dX6_readMove_30 : decode cX6_readMove 30 = .ok (.iload_n 3, 1) := by decide +kernel
theorem dX6_readMove_31 : decode cX6_readMove 31 = .ok (.ifCond .eq 11, 3) := by decide +kernel
theorem dX6_readMove_34 : decode cX6_readMove 34 = .ok (.aload_n 0, 1) := by decide +kernel
theorem dX6_readMove_35 : decode cX6_readMove 35 = .ok (.iconst 1, 1) := by decide +kernel
theorem dX6_readMove_36 : decode cX6_readMove 36 = .ok (.invokevirtual 75, 3) := by decide +kernel
theorem dX6_readMove_39 : decode cX6_readMove 39 = .ok (.goto 4, 3) := by decide +kernel
theorem dX6_readMove_42 : decode cX6_readMove 42 = .ok (.iconst (-1), 1) := by decide +kernel
theorem dX6_readMove_43 : decode cX6_readMove 43 = .ok (.istore 4, 2) := by decide +kernel
theorem dX6_readMove_45 : decode cX6_readMove 45 = .ok (.iload_n 2, 1) := by decide +kernel
theorem dX6_readMove_46 : decode cX6_readMove 46 = .ok (.ifCond .ne 4, 3) := by decide +kernel
theorem dX6_readMove_49 : decode cX6_readMove 49 = .ok (.return_, 1) := by decide +kernel
theorem dX6_readMove_50 : decode cX6_readMove 50 = .ok (.iload_n 1, 1) := by decide +kernel
theorem dX6_readMove_51 : decode cX6_readMove 51 = .ok (.lookupswitch 128 #[(60, 69), (62, 57), (79, 105), (81, 117), (91, 93), (93, 81)], 57) := by decide +kernel
theorem dX6_readMove_108 : decode cX6_readMove 108 = .ok (.aload_n 0, 1) := by decide +kernel
theorem dX6_readMove_109 : decode cX6_readMove 109 = .ok (.getfield 14, 3) := by decide +kernel
theorem dX6_readMove_112 : decode cX6_readMove 112 = .ok (.iload 4, 2) := by decide +kernel
theorem dX6_readMove_114 : decode cX6_readMove 114 = .ok (.invokevirtual 117, 3) := by decide +kernel
theorem dX6_readMove_117 : decode cX6_readMove 117 = .ok (.goto 69, 3) := by decide +kernel
theorem dX6_readMove_120 : decode cX6_readMove 120 = .ok (.aload_n 0, 1) := by decide +kernel
theorem dX6_readMove_121 : decode cX6_readMove 121 = .ok (.getfield 14, 3) := by decide +kernel
theorem dX6_readMove_124 : decode cX6_readMove 124 = .ok (.iload 4, 2) := by decide +kernel
theorem dX6_readMove_126 : decode cX6_readMove 126 = .ok (.invokevirtual 120, 3) := by decide +kernel
theorem dX6_readMove_129 : decode cX6_readMove 129 = .ok (.goto 57, 3) := by decide +kernel
theorem dX6_readMove_132 : decode cX6_readMove 132 = .ok (.aload_n 0, 1) := by decide +kernel
theorem dX6_readMove_133 : decode cX6_readMove 133 = .ok (.getfield 14, 3) := by decide +kernel
theorem dX6_readMove_136 : decode cX6_readMove 136 = .ok (.iload 4, 2) := by decide +kernel
theorem dX6_readMove_138 : decode cX6_readMove 138 = .ok (.invokevirtual 123, 3) := by decide +kernel
theorem dX6_readMove_141 : decode cX6_readMove 141 = .ok (.goto 45, 3) := by decide +kernel
theorem dX6_readMove_144 : decode cX6_readMove 144 = .ok (.aload_n 0, 1) := by decide +kernel
theorem dX6_readMove_145 : decode cX6_readMove 145 = .ok (.getfield 14, 3) := by decide +kernel
theorem dX6_readMove_148 : decode cX6_readMove 148 = .ok (.iload 4, 2) := by decide +kernel
theorem dX6_readMove_150 : decode cX6_readMove 150 = .ok (.invokevirtual 126, 3) := by decide +kernel
theorem dX6_readMove_153 : decode cX6_readMove 153 = .ok (.goto 33, 3) := by decide +kernel
theorem dX6_readMove_156 : decode cX6_readMove 156 = .ok (.aload_n 0, 1) := by decide +kernel
theorem dX6_readMove_157 : decode cX6_readMove 157 = .ok (.getfield 14, 3) := by decide +kernel
theorem dX6_readMove_160 : decode cX6_readMove 160 = .ok (.bipush 14, 2) := by decide +kernel
theorem dX6_readMove_162 : decode cX6_readMove 162 = .ok (.invokevirtual 131, 3) := by decide +kernel
theorem dX6_readMove_165 : decode cX6_readMove 165 = .ok (.goto 21, 3) := by decide +kernel
theorem dX6_readMove_168 : decode cX6_readMove 168 = .ok (.aload_n 0, 1) := by decide +kernel
theorem dX6_readMove_169 : decode cX6_readMove 169 = .ok (.getfield 14, 3) := by decide +kernel
theorem dX6_readMove_172 : decode cX6_readMove 172 = .ok (.iconst 0, 1) := by decide +kernel
theorem dX6_readMove_173 : decode cX6_readMove 173 = .ok (.invokevirtual 131, 3) := by decide +kernel
theorem dX6_readMove_176 : decode cX6_readMove 176 = .ok (.goto 10, 3) := by decide +kernel
theorem dX6_readMove_179 : decode cX6_readMove 179 = .ok (.aload_n 0, 1) := by decide +kernel
theorem dX6_readMove_180 : decode cX6_readMove 180 = .ok (.getfield 14, 3) := by decide +kernel
theorem dX6_readMove_183 : decode cX6_readMove 183 = .ok (.invokevirtual 134, 3) := by decide +kernel
theorem dX6_readMove_186 : decode cX6_readMove 186 = .ok (.return_, 1) := by decide +kernel
theorem dX6_readCondition_0 : decode cX6_readCondition 0 = .ok (.iload_n 1, 1) := by decide +kernel
theorem dX6_readCondition_1 : decode cX6_readCondition 1 = .ok (.bipush 41, 2) := by decide +kernel
theorem dX6_readCondition_3 : decode cX6_readCondition 3 = .ok (.if_icmp .le 5, 3) := by decide +kernel
theorem dX6_readCondition_6 : decode cX6_readCondition 6 = .ok (.iconst 0, 1) := by decide +kernel
theorem dX6_readCondition_7 : decode cX6_readCondition 7 = .ok (.ireturn, 1) := by decide +kernel
theorem dX6_readCondition_8 : decode cX6_readCondition 8 = .ok (.aload_n 0, 1) := by decide +kernel
theorem dX6_readCondition_9 : decode cX6_readCondition 9 = .ok (.invokevirtual 71, 3) := by decide +kernel
theorem dX6_readCondition_12 : decode cX6_readCondition 12 = .ok (.lookupswitch 119 #[(33, 103), (65, 73), (69, 90), (87, 52), (89, 65)], 52) := by decide +kernel
theorem dX6_readCondition_64 : decode cX6_readCondition 64 = .ok (.aload_n 0, 1) := by decide +kernel
theorem dX6_readCondition_65 : decode cX6_readCondition 65 = .ok (.getfield 14, 3) := by decide +kernel
theorem dX6_readCondition_68 : decode cX6_readCondition 68 = .ok (.aload_n 0, 1) := by decide +kernel
theorem dX6_readCondition_69 : decode cX6_readCondition 69 = .ok (.iconst 1, 1) := by decide +kernel
theorem dX6_readCondition_70 : decode cX6_readCondition 70 = .ok (.invokevirtual 75, 3) := by decide +kernel
theorem dX6_readCondition_73 : decode cX6_readCondition 73 = .ok (.invokevirtual 137, 3) := by decide +kernel
theorem dX6_readCondition_76 : decode cX6_readCondition 76 = .ok (.ireturn, 1) := by decide +kernel
theorem dX6_readCondition_77 : decode cX6_readCondition 77 = .ok (.aload_n 0, 1) := by decide +kernel
theorem dX6_readCondition_78 : decode cX6_readCondition 78 = .ok (.getfield 14, 3) := by decide +kernel
theorem dX6_readCondition_81 : decode cX6_readCondition 81 = .ok (.invokevirtual 140, 3) := by decide +kernel
theorem dX6_readCondition_84 : decode cX6_readCondition 84 = .ok (.ireturn, 1) := by decide +kernel
theorem dX6_readCondition_85 : decode cX6_readCondition 85 = .ok (.aload_n 0, 1) := by decide +kernel
theorem dX6_readCondition_86 : decode cX6_readCondition 86 = .ok (.getfield 14, 3) := by decide +kernel
theorem dX6_readCondition_89 : decode cX6_readCondition 89 = .ok (.aload_n 0, 1) := by decide +kernel
theorem dX6_readCondition_90 : decode cX6_readCondition 90 = .ok (.aload_n 0, 1) := by decide +kernel
theorem dX6_readCondition_91 : decode cX6_readCondition 91 = .ok (.iconst 2, 1) := by decide +kernel
theorem dX6_readCondition_92 : decode cX6_readCondition 92 = .ok (.invokevirtual 75, 3) := by decide +kernel
theorem dX6_readCondition_95 : decode cX6_readCondition 95 = .ok (.invokevirtual 89, 3) := by decide +kernel
theorem dX6_readCondition_98 : decode cX6_readCondition 98 = .ok (.invokevirtual 144, 3) := by decide +kernel
theorem dX6_readCondition_101 : decode cX6_readCondition 101 = .ok (.ireturn, 1) := by decide +kernel
theorem dX6_readCondition_102 : decode cX6_readCondition 102 = .ok (.aload_n 0, 1) := by decide +kernel
theorem dX6_readCondition_103 : decode cX6_readCondition 103 = .ok (.getfield 14, 3) := by decide +kernel
theorem dX6_readCondition_106 : decode cX6_readCondition 106 = .ok (.aload_n 0, 1) := by decide +kernel
theorem dX6_readCondition_107 : decode cX6_readCondition 107 = .ok (.iconst 4, 1) := by decide +kernel
theorem dX6_readCondition_108 : decode cX6_readCondition 108 = .ok (.invokevirtual 75, 3) := by decide +kernel
theorem dX6_readCondition_111 : decode cX6_readCondition 111 = .ok (.invokevirtual 147, 3) := by decide +kernel
theorem dX6_readCondition_114 : decode cX6_readCondition 114 = .ok (.ireturn, 1) := by decide +kernel
theorem dX6_readCondition_115 : decode cX6_readCondition 115 = .ok (.aload_n 0, 1) := by decide +kernel
theorem dX6_readCondition_116 : decode cX6_readCondition 116 = .ok (.iload_n 1, 1) := by decide +kernel
theorem dX6_readCondition_117 : decode cX6_readCondition 117 = .ok (.iconst 1, 1) := by decide +kernel
theorem dX6_readCondition_118 : decode cX6_readCondition 118 = .ok (.iadd, 1) := by decide +kernel
theorem dX6_readCondition_119 : decode cX6_readCondition 119 = .ok (.invokevirtual 110, 3) := by decide +kernel
theorem dX6_readCondition_122 : decode cX6_readCondition 122 = .ok (.ifCond .ne 7, 3) := by decide +kernel
theorem dX6_readCondition_125 : decode cX6_readCondition 125 = .ok (.iconst 1, 1) := by decide +kernel
theorem dX6_readCondition_126 : decode cX6_readCondition 126 = .ok (.goto 4, 3) := by decide +kernel
theorem dX6_readCondition_129 : decode cX6_readCondition 129 = .ok (.iconst 0, 1) := by decide +kernel
theorem dX6_readCondition_130 : decode cX6_readCondition 130 = .ok (.ireturn, 1) := by decide +kernel
theorem dX6_readCondition_131 : decode cX6_readCondition 131 = .ok (.aload_n 0, 1) := by decide +kernel
theorem dX6_readCondition_132 : decode cX6_readCondition 132 = .ok (.iload_n 1, 1) := by decide +kernel
theorem dX6_readCondition_133 : decode cX6_readCondition 133 = .ok (.iconst 1, 1) := by decide +kernel
theorem dX6_readCondition_134 : decode cX6_readCondition 134 = .ok (.iadd, 1) := by decide +kernel
theorem dX6_readCondition_135 : decode cX6_readCondition 135 = .ok (.invokevirtual 110, 3) := by decide +kernel
theorem dX6_readCondition_138 : decode cX6_readCondition 138 = .ok (.istore_n 2, 1) := by decide +kernel
theorem dX6_readCondition_139 : decode cX6_readCondition 139 = .ok (.aload_n 0, 1) := by decide +kernel
theorem dX6_readCondition_140 : decode cX6_readCondition 140 = .ok (.invokevirtual 71, 3) := by decide +kernel
theorem dX6_readCondition_143 : decode cX6_readCondition 143 = .ok (.bipush 38, 2) := by decide +kernel
theorem dX6_readCondition_145 : decode cX6_readCondition 145 = .ok (.if_icmp .ne 7, 3) := by decide +kernel
theorem dX6_readCondition_148 : decode cX6_readCondition 148 = .ok (.iconst 1, 1) := by decide +kernel
theorem dX6_readCondition_149 : decode cX6_readCondition 149 = .ok (.goto 4, 3) := by decide +kernel
theorem dX6_readCondition_152 : decode cX6_readCondition 152 = .ok (.iconst 0, 1) := by decide +kernel
theorem dX6_readCondition_153 : decode cX6_readCondition 153 = .ok (.istore_n 3, 1) := by decide +kernel
theorem dX6_readCondition_154 : decode cX6_readCondition 154 = .ok (.aload_n 0, 1) := by decide +kernel
theorem dX6_readCondition_155 : decode cX6_readCondition 155 = .ok (.iload_n 1, 1) := by decide +kernel
theorem dX6_readCondition_156 : decode cX6_readCondition 156 = .ok (.iconst 1, 1) := by decide +kernel
theorem dX6_readCondition_157 : decode cX6_readCondition 157 = .ok (.iadd, 1) := by decide +kernel
theorem dX6_readCondition_158 : decode cX6_readCondition 158 = .ok (.invokevirtual 110, 3) := by decide +kernel
theorem dX6_readCondition_161 : decode cX6_readCondition 161 = .ok (.istore 4, 2) := by decide +kernel
theorem dX6_readCondition_163 : decode cX6_readCondition 163 = .ok (.aload_n 0, 1) := by decide +kernel
theorem dX6_readCondition_164 : decode cX6_readCondition 164 = .ok (.dup, 1) := by decide +kernel
theorem dX6_readCondition_165 : decode cX6_readCondition 165 = .ok (.getfield 53, 3) := by decide +kernel
theorem dX6_readCondition_168 : decode cX6_readCondition 168 = .ok (.iconst 1, 1) := by decide +kernel
theorem dX6_readCondition_169 : decode cX6_readCondition 169 = .ok (.iadd, 1) := by decide +kernel
theorem dX6_readCondition_170 : decode cX6_readCondition 170 = .ok (.putfield 53, 3) := by decide +kernel
theorem dX6_readCondition_173 : decode cX6_readCondition 173 = .ok (.iload_n 3, 1) := by decide +kernel
theorem dX6_readCondition_174 : decode cX6_readCondition 174 = .ok (.ifCond .eq 20, 3) := by decide +kernel
theorem dX6_readCondition_177 : decode cX6_readCondition 177 = .ok (.iload_n 2, 1) := by decide +kernel
theorem dX6_readCondition_178 : decode cX6_readCondition 178 = .ok (.ifCond .eq 12, 3) := by decide +kernel
theorem dX6_readCondition_181 : decode cX6_readCondition 181 = .ok (.iload 4, 2) := by decide +kernel
theorem dX6_readCondition_183 : decode cX6_readCondition 183 = .ok (.ifCond .eq 7, 3) := by decide +kernel
theorem dX6_readCondition_186 : decode cX6_readCondition 186 = .ok (.iconst 1, 1) := by decide +kernel
theorem dX6_readCondition_187 : decode cX6_readCondition 187 = .ok (.goto 21, 3) := by decide +kernel
theorem dX6_readCondition_190 : decode cX6_readCondition 190 = .ok (.iconst 0, 1) := by decide +kernel
theorem dX6_readCondition_191 : decode cX6_readCondition 191 = .ok (.goto 17, 3) := by decide +kernel
theorem dX6_readCondition_194 : decode cX6_readCondition 194 = .ok (.iload_n 2, 1) := by decide +kernel
theorem dX6_readCondition_195 : decode cX6_readCondition 195 = .ok (.ifCond .ne 8, 3) := by decide +kernel
theorem dX6_readCondition_198 : decode cX6_readCondition 198 = .ok (.iload 4, 2) := by decide +kernel
theorem dX6_readCondition_200 : decode cX6_readCondition 200 = .ok (.ifCond .eq 7, 3) := by decide +kernel
theorem dX6_readCondition_203 : decode cX6_readCondition 203 = .ok (.iconst 1, 1) := by decide +kernel
theorem dX6_readCondition_204 : decode cX6_readCondition 204 = .ok (.goto 4, 3) := by decide +kernel
theorem dX6_readCondition_207 : decode cX6_readCondition 207 = .ok (.iconst 0, 1) := by decide +kernel
theorem dX6_readCondition_208 : decode cX6_readCondition 208 = .ok (.ireturn, 1) := by decide +kernel
theorem dX6_nextSign_0 : decode cX6_nextSign 0 = .ok (.aload_n 0, 1) := by decide +kernel
theorem dX6_nextSign_1 : decode cX6_nextSign 1 = .ok (.getfield 34, 3) := by decide +kernel
theorem dX6_nextSign_4 : decode cX6_nextSign 4 = .ok (.aload_n 0, 1) := by decide +kernel
theorem dX6_nextSign_5 : decode cX6_nextSign 5 = .ok (.getfield 53, 3) := by decide +kernel
theorem dX6_nextSign_8 : decode cX6_nextSign 8 = .ok (.invokevirtual 95, 3) := by decide +kernel
theorem dX6_nextSign_11 : decode cX6_nextSign 11 = .ok (.istore_n 1, 1) := by decide +kernel
theorem dX6_nextSign_12 : decode cX6_nextSign 12 = .ok (.aload_n 0, 1) := by decide +kernel
theorem dX6_nextSign_13 : decode cX6_nextSign 13 = .ok (.dup, 1) := by decide +kernel
theorem dX6_nextSign_14 : decode cX6_nextSign 14 = .ok (.getfield 53, 3) := by decide +kernel
theorem dX6_nextSign_17 : decode cX6_nextSign 17 = .ok (.iconst 1, 1) := by decide +kernel
theorem dX6_nextSign_18 : decode cX6_nextSign 18 = .ok (.iadd, 1) := by decide +kernel
theorem dX6_nextSign_19 : decode cX6_nextSign 19 = .ok (.putfield 53, 3) := by decide +kernel
theorem dX6_nextSign_22 : decode cX6_nextSign 22 = .ok (.iload_n 1, 1) := by decide +kernel
theorem dX6_nextSign_23 : decode cX6_nextSign 23 = .ok (.ireturn, 1) := by decide +kernel
theorem dX6_nextNumber_0 : decode cX6_nextNumber 0 = .ok (.iconst 0, 1) := by decide +kernel
theorem dX6_nextNumber_1 : decode cX6_nextNumber 1 = .ok (.istore_n 2, 1) := by decide +kernel
theorem dX6_nextNumber_2 : decode cX6_nextNumber 2 = .ok (.iconst 0, 1) := by decide +kernel
theorem dX6_nextNumber_3 : decode cX6_nextNumber 3 = .ok (.istore_n 3, 1) := by decide +kernel
theorem dX6_nextNumber_4 : decode cX6_nextNumber 4 = .ok (.iload_n 3, 1) := by decide +kernel
theorem dX6_nextNumber_5 : decode cX6_nextNumber 5 = .ok (.iload_n 1, 1) := by decide +kernel
theorem dX6_nextNumber_6 : decode cX6_nextNumber 6 = .ok (.if_icmp .ge 60, 3) := by decide +kernel
theorem dX6_nextNumber_9 : decode cX6_nextNumber 9 = .ok (.aload_n 0, 1) := by decide +kernel
theorem dX6_nextNumber_10 : decode cX6_nextNumber 10 = .ok (.getfield 34, 3) := by decide +kernel
theorem dX6_nextNumber_13 : decode cX6_nextNumber 13 = .ok (.aload_n 0, 1) := by decide +kernel
theorem dX6_nextNumber_14 : decode cX6_nextNumber 14 = .ok (.getfield 53, 3) := by decide +kernel
theorem dX6_nextNumber_17 : decode cX6_nextNumber 17 = .ok (.invokevirtual 95, 3) := by decide +kernel
theorem dX6_nextNumber_20 : decode cX6_nextNumber 20 = .ok (.istore 4, 2) := by decide +kernel
theorem dX6_nextNumber_22 : decode cX6_nextNumber 22 = .ok (.iload 4, 2) := by decide +kernel
theorem dX6_nextNumber_24 : decode cX6_nextNumber 24 = .ok (.bipush 48, 2) := by decide +kernel
theorem dX6_nextNumber_26 : decode cX6_nextNumber 26 = .ok (.if_icmp .lt 40, 3) := by decide +kernel
theorem dX6_nextNumber_29 : decode cX6_nextNumber 29 = .ok (.iload 4, 2) := by decide +kernel
theorem dX6_nextNumber_31 : decode cX6_nextNumber 31 = .ok (.bipush 57, 2) := by decide +kernel
theorem dX6_nextNumber_33 : decode cX6_nextNumber 33 = .ok (.if_icmp .le 6, 3) := by decide +kernel
theorem dX6_nextNumber_36 : decode cX6_nextNumber 36 = .ok (.goto 30, 3) := by decide +kernel
theorem dX6_nextNumber_39 : decode cX6_nextNumber 39 = .ok (.bipush 10, 2) := by decide +kernel
theorem dX6_nextNumber_41 : decode cX6_nextNumber 41 = .ok (.iload_n 2, 1) := by decide +kernel
theorem dX6_nextNumber_42 : decode cX6_nextNumber 42 = .ok (.imul, 1) := by decide +kernel
theorem dX6_nextNumber_43 : decode cX6_nextNumber 43 = .ok (.iload 4, 2) := by decide +kernel
theorem dX6_nextNumber_45 : decode cX6_nextNumber 45 = .ok (.iadd, 1) := by decide +kernel
theorem dX6_nextNumber_46 : decode cX6_nextNumber 46 = .ok (.bipush 48, 2) := by decide +kernel
theorem dX6_nextNumber_48 : decode cX6_nextNumber 48 = .ok (.isub, 1) := by decide +kernel
theorem dX6_nextNumber_49 : decode cX6_nextNumber 49 = .ok (.istore_n 2, 1) := by decide +kernel
theorem dX6_nextNumber_50 : decode cX6_nextNumber 50 = .ok (.aload_n 0, 1) := by decide +kernel
theorem dX6_nextNumber_51 : decode cX6_nextNumber 51 = .ok (.dup, 1) := by decide +kernel
theorem dX6_nextNumber_52 : decode cX6_nextNumber 52 = .ok (.getfield 53, 3) := by decide +kernel
theorem dX6_nextNumber_55 : decode cX6_nextNumber 55 = .ok (.iconst 1, 1) := by decide +kernel
theorem dX6_nextNumber_56 : decode cX6_nextNumber 56 = .ok (.iadd, 1) := by decide +kernel
theorem dX6_nextNumber_57 : decode cX6_nextNumber 57 = .ok (.putfield 53, 3) := by decide +kernel
theorem dX6_nextNumber_60 : decode cX6_nextNumber 60 = .ok (.iinc 3 1, 3) := by decide +kernel
theorem dX6_nextNumber_63 : decode cX6_nextNumber 63 = .ok (.goto (-59), 3) := by decide +kernel
theorem dX6_nextNumber_66 : decode cX6_nextNumber 66 = .ok (.iload_n 2, 1) := by decide +kernel
theorem dX6_nextNumber_67 : decode cX6_nextNumber 67 = .ok (.ireturn, 1) := by decide +kernel
theorem dX6_bentDay_0 : decode cX6_bentDay 0 = .ok (.iload_n 1, 1) := by decide +kernel
theorem dX6_bentDay_1 : decode cX6_bentDay 1 = .ok (.ifCond .lt 21, 3) := by decide +kernel
theorem dX6_bentDay_4 : decode cX6_bentDay 4 = .ok (.iload_n 1, 1) := by decide +kernel
theorem dX6_bentDay_5 : decode cX6_bentDay 5 = .ok (.aload_n 0, 1) := by decide +kernel
theorem dX6_bentDay_6 : decode cX6_bentDay 6 = .ok (.getfield 22, 3) := by decide +kernel
theorem dX6_bentDay_9 : decode cX6_bentDay 9 = .ok (.arraylength, 1) := by decide +kernel
theorem dX6_bentDay_10 : decode cX6_bentDay 10 = .ok (.if_icmp .ge 12, 3) := by decide +kernel
theorem dX6_bentDay_13 : decode cX6_bentDay 13 = .ok (.aload_n 0, 1) := by decide +kernel
theorem dX6_bentDay_14 : decode cX6_bentDay 14 = .ok (.getfield 22, 3) := by decide +kernel
theorem dX6_bentDay_17 : decode cX6_bentDay 17 = .ok (.iload_n 1, 1) := by decide +kernel
theorem dX6_bentDay_18 : decode cX6_bentDay 18 = .ok (.iaload, 1) := by decide +kernel
theorem dX6_bentDay_19 : decode cX6_bentDay 19 = .ok (.goto 4, 3) := by decide +kernel
theorem dX6_bentDay_22 : decode cX6_bentDay 22 = .ok (.iconst (-1), 1) := by decide +kernel
theorem dX6_bentDay_23 : decode cX6_bentDay 23 = .ok (.ireturn, 1) := by decide +kernel
theorem dX6_goThroughDays_0 : decode cX6_goThroughDays 0 = .ok (.iconst 0, 1) := by decide +kernel
theorem dX6_goThroughDays_1 : decode cX6_goThroughDays 1 = .ok (.istore_n 2, 1) := by decide +kernel
theorem dX6_goThroughDays_2 : decode cX6_goThroughDays 2 = .ok (.iload_n 2, 1) := by decide +kernel
theorem dX6_goThroughDays_3 : decode cX6_goThroughDays 3 = .ok (.aload_n 0, 1) := by decide +kernel
theorem dX6_goThroughDays_4 : decode cX6_goThroughDays 4 = .ok (.getfield 29, 3) := by decide +kernel
theorem dX6_goThroughDays_7 : decode cX6_goThroughDays 7 = .ok (.invokevirtual 38, 3) := by decide +kernel
theorem dX6_goThroughDays_10 : decode cX6_goThroughDays 10 = .ok (.if_icmp .ge 16, 3) := by decide +kernel
theorem dX6_goThroughDays_13 : decode cX6_goThroughDays 13 = .ok (.aload_n 0, 1) := by decide +kernel
theorem dX6_goThroughDays_14 : decode cX6_goThroughDays 14 = .ok (.getfield 26, 3) := by decide +kernel
theorem dX6_goThroughDays_17 : decode cX6_goThroughDays 17 = .ok (.iload_n 2, 1) := by decide +kernel
theorem dX6_goThroughDays_18 : decode cX6_goThroughDays 18 = .ok (.iconst (-1), 1) := by decide +kernel
theorem dX6_goThroughDays_19 : decode cX6_goThroughDays 19 = .ok (.iastore, 1) := by decide +kernel
theorem dX6_goThroughDays_20 : decode cX6_goThroughDays 20 = .ok (.iinc 2 1, 3) := by decide +kernel
theorem dX6_goThroughDays_23 : decode cX6_goThroughDays 23 = .ok (.goto (-21), 3) := by decide +kernel
theorem dX6_goThroughDays_26 : decode cX6_goThroughDays 26 = .ok (.iload_n 1, 1) := by decide +kernel
theorem dX6_goThroughDays_27 : decode cX6_goThroughDays 27 = .ok (.invokestatic 150, 3) := by decide +kernel
theorem dX6_goThroughDays_30 : decode cX6_goThroughDays 30 = .ok (.istore_n 2, 1) := by decide +kernel
theorem dX6_goThroughDays_31 : decode cX6_goThroughDays 31 = .ok (.iconst 0, 1) := by decide +kernel
theorem dX6_goThroughDays_32 : decode cX6_goThroughDays 32 = .ok (.istore_n 3, 1) := by decide +kernel
theorem dX6_goThroughDays_33 : decode cX6_goThroughDays 33 = .ok (.iload_n 3, 1) := by decide +kernel
theorem dX6_goThroughDays_34 : decode cX6_goThroughDays 34 = .ok (.iload_n 2, 1) := by decide +kernel
theorem dX6_goThroughDays_35 : decode cX6_goThroughDays 35 = .ok (.if_icmp .ge 30, 3) := by decide +kernel
theorem dX6_goThroughDays_38 : decode cX6_goThroughDays 38 = .ok (.aload_n 0, 1) := by decide +kernel
theorem dX6_goThroughDays_39 : decode cX6_goThroughDays 39 = .ok (.iload_n 3, 1) := by decide +kernel
theorem dX6_goThroughDays_40 : decode cX6_goThroughDays 40 = .ok (.invokevirtual 155, 3) := by decide +kernel
theorem dX6_goThroughDays_43 : decode cX6_goThroughDays 43 = .ok (.istore 4, 2) := by decide +kernel
theorem dX6_goThroughDays_45 : decode cX6_goThroughDays 45 = .ok (.iload 4, 2) := by decide +kernel
theorem dX6_goThroughDays_47 : decode cX6_goThroughDays 47 = .ok (.iconst (-1), 1) := by decide +kernel
theorem dX6_goThroughDays_48 : decode cX6_goThroughDays 48 = .ok (.if_icmp .eq 11, 3) := by decide +kernel
theorem dX6_goThroughDays_51 : decode cX6_goThroughDays 51 = .ok (.aload_n 0, 1) := by decide +kernel
theorem dX6_goThroughDays_52 : decode cX6_goThroughDays 52 = .ok (.getfield 26, 3) := by decide +kernel
theorem dX6_goThroughDays_55 : decode cX6_goThroughDays 55 = .ok (.iload 4, 2) := by decide +kernel
theorem dX6_goThroughDays_57 : decode cX6_goThroughDays 57 = .ok (.iload_n 3, 1) := by decide +kernel
theorem dX6_goThroughDays_58 : decode cX6_goThroughDays 58 = .ok (.iastore, 1) := by decide +kernel
theorem dX6_goThroughDays_59 : decode cX6_goThroughDays 59 = .ok (.iinc 3 1, 3) := by decide +kernel
theorem dX6_goThroughDays_62 : decode cX6_goThroughDays 62 = .ok (.goto (-29), 3) := by decide +kernel
theorem dX6_goThroughDays_65 : decode cX6_goThroughDays 65 = .ok (.return_, 1) := by decide +kernel
theorem dX6_bestOn_0 : decode cX6_bestOn 0 = .ok (.iconst (-1), 1) := by decide +kernel
theorem dX6_bestOn_1 : decode cX6_bestOn 1 = .ok (.istore_n 2, 1) := by decide +kernel
theorem dX6_bestOn_2 : decode cX6_bestOn 2 = .ok (.iconst 0, 1) := by decide +kernel
theorem dX6_bestOn_3 : decode cX6_bestOn 3 = .ok (.istore_n 3, 1) := by decide +kernel
theorem dX6_bestOn_4 : decode cX6_bestOn 4 = .ok (.iload_n 3, 1) := by decide +kernel
theorem dX6_bestOn_5 : decode cX6_bestOn 5 = .ok (.aload_n 0, 1) := by decide +kernel
theorem dX6_bestOn_6 : decode cX6_bestOn 6 = .ok (.getfield 29, 3) := by decide +kernel
theorem dX6_bestOn_9 : decode cX6_bestOn 9 = .ok (.invokevirtual 38, 3) := by decide +kernel
theorem dX6_bestOn_12 : decode cX6_bestOn 12 = .ok (.if_icmp .ge 44, 3) := by decide +kernel
theorem dX6_bestOn_15 : decode cX6_bestOn 15 = .ok (.aload_n 0, 1) := by decide +kernel
theorem dX6_bestOn_16 : decode cX6_bestOn 16 = .ok (.iload_n 3, 1) := by decide +kernel
theorem dX6_bestOn_17 : decode cX6_bestOn 17 = .ok (.iload_n 1, 1) := by decide +kernel
theorem dX6_bestOn_18 : decode cX6_bestOn 18 = .ok (.invokevirtual 158, 3) := by decide +kernel
theorem dX6_bestOn_21 : decode cX6_bestOn 21 = .ok (.ifCond .eq 29, 3) := by decide +kernel
theorem dX6_bestOn_24 : decode cX6_bestOn 24 = .ok (.iload_n 2, 1) := by decide +kernel
theorem dX6_bestOn_25 : decode cX6_bestOn 25 = .ok (.iconst (-1), 1) := by decide +kernel
theorem dX6_bestOn_26 : decode cX6_bestOn 26 = .ok (.if_icmp .eq 22, 3) := by decide +kernel
theorem dX6_bestOn_29 : decode cX6_bestOn 29 = .ok (.aload_n 0, 1) := by decide +kernel
theorem dX6_bestOn_30 : decode cX6_bestOn 30 = .ok (.getfield 29, 3) := by decide +kernel
theorem dX6_bestOn_33 : decode cX6_bestOn 33 = .ok (.iload_n 3, 1) := by decide +kernel
theorem dX6_bestOn_34 : decode cX6_bestOn 34 = .ok (.invokevirtual 162, 3) := by decide +kernel
theorem dX6_bestOn_37 : decode cX6_bestOn 37 = .ok (.aload_n 0, 1) := by decide +kernel
theorem dX6_bestOn_38 : decode cX6_bestOn 38 = .ok (.getfield 29, 3) := by decide +kernel
theorem dX6_bestOn_41 : decode cX6_bestOn 41 = .ok (.iload_n 2, 1) := by decide +kernel
theorem dX6_bestOn_42 : decode cX6_bestOn 42 = .ok (.invokevirtual 162, 3) := by decide +kernel
theorem dX6_bestOn_45 : decode cX6_bestOn 45 = .ok (.if_icmp .le 5, 3) := by decide +kernel
theorem dX6_bestOn_48 : decode cX6_bestOn 48 = .ok (.iload_n 3, 1) := by decide +kernel
theorem dX6_bestOn_49 : decode cX6_bestOn 49 = .ok (.istore_n 2, 1) := by decide +kernel
theorem dX6_bestOn_50 : decode cX6_bestOn 50 = .ok (.iinc 3 1, 3) := by decide +kernel
theorem dX6_bestOn_53 : decode cX6_bestOn 53 = .ok (.goto (-49), 3) := by decide +kernel
theorem dX6_bestOn_56 : decode cX6_bestOn 56 = .ok (.iload_n 2, 1) := by decide +kernel
theorem dX6_bestOn_57 : decode cX6_bestOn 57 = .ok (.ireturn, 1) := by decide +kernel
theorem dX6_asksFor_0 : decode cX6_asksFor 0 = .ok (.aload_n 0, 1) := by decide +kernel
theorem dX6_asksFor_1 : decode cX6_asksFor 1 = .ok (.getfield 22, 3) := by decide +kernel
theorem dX6_asksFor_4 : decode cX6_asksFor 4 = .ok (.iload_n 1, 1) := by decide +kernel
theorem dX6_asksFor_5 : decode cX6_asksFor 5 = .ok (.iaload, 1) := by decide +kernel
theorem dX6_asksFor_6 : decode cX6_asksFor 6 = .ok (.istore_n 3, 1) := by decide +kernel
theorem dX6_asksFor_7 : decode cX6_asksFor 7 = .ok (.iload_n 3, 1) := by decide +kernel
theorem dX6_asksFor_8 : decode cX6_asksFor 8 = .ok (.iconst (-1), 1) := by decide +kernel
theorem dX6_asksFor_9 : decode cX6_asksFor 9 = .ok (.if_icmp .eq 13, 3) := by decide +kernel
theorem dX6_asksFor_12 : decode cX6_asksFor 12 = .ok (.aload_n 0, 1) := by decide +kernel
theorem dX6_asksFor_13 : decode cX6_asksFor 13 = .ok (.getfield 26, 3) := by decide +kernel
theorem dX6_asksFor_16 : decode cX6_asksFor 16 = .ok (.iload_n 1, 1) := by decide +kernel
theorem dX6_asksFor_17 : decode cX6_asksFor 17 = .ok (.iaload, 1) := by decide +kernel
theorem dX6_asksFor_18 : decode cX6_asksFor 18 = .ok (.iconst (-1), 1) := by decide +kernel
theorem dX6_asksFor_19 : decode cX6_asksFor 19 = .ok (.if_icmp .eq 5, 3) := by decide +kernel
theorem dX6_asksFor_22 : decode cX6_asksFor 22 = .ok (.iconst 0, 1) := by decide +kernel
theorem dX6_asksFor_23 : decode cX6_asksFor 23 = .ok (.ireturn, 1) := by decide +kernel
theorem dX6_asksFor_24 : decode cX6_asksFor 24 = .ok (.aload_n 0, 1) := by decide +kernel
theorem dX6_asksFor_25 : decode cX6_asksFor 25 = .ok (.getfield 29, 3) := by decide +kernel
theorem dX6_asksFor_28 : decode cX6_asksFor 28 = .ok (.iload_n 1, 1) := by decide +kernel
theorem dX6_asksFor_29 : decode cX6_asksFor 29 = .ok (.invokevirtual 165, 3) := by decide +kernel
theorem dX6_asksFor_32 : decode cX6_asksFor 32 = .ok (.ifCond .eq 10, 3) := by decide +kernel
theorem dX6_asksFor_35 : decode cX6_asksFor 35 = .ok (.iload_n 3, 1) := by decide +kernel
theorem dX6_asksFor_36 : decode cX6_asksFor 36 = .ok (.bipush 20, 2) := by decide +kernel
theorem dX6_asksFor_38 : decode cX6_asksFor 38 = .ok (.iadd, 1) := by decide +kernel
theorem dX6_asksFor_39 : decode cX6_asksFor 39 = .ok (.goto 4, 3) := by decide +kernel
theorem dX6_asksFor_42 : decode cX6_asksFor 42 = .ok (.iload_n 3, 1) := by decide +kernel
theorem dX6_asksFor_43 : decode cX6_asksFor 43 = .ok (.istore 4, 2) := by decide +kernel
theorem dX6_asksFor_45 : decode cX6_asksFor 45 = .ok (.iload_n 2, 1) := by decide +kernel
theorem dX6_asksFor_46 : decode cX6_asksFor 46 = .ok (.iload_n 3, 1) := by decide +kernel
theorem dX6_asksFor_47 : decode cX6_asksFor 47 = .ok (.if_icmp .lt 13, 3) := by decide +kernel
theorem dX6_asksFor_50 : decode cX6_asksFor 50 = .ok (.iload_n 2, 1) := by decide +kernel
theorem dX6_asksFor_51 : decode cX6_asksFor 51 = .ok (.iload 4, 2) := by decide +kernel
theorem dX6_asksFor_53 : decode cX6_asksFor 53 = .ok (.if_icmp .gt 7, 3) := by decide +kernel
theorem dX6_asksFor_56 : decode cX6_asksFor 56 = .ok (.iconst 1, 1) := by decide +kernel
theorem dX6_asksFor_57 : decode cX6_asksFor 57 = .ok (.goto 4, 3) := by decide +kernel
theorem dX6_asksFor_60 : decode cX6_asksFor 60 = .ok (.iconst 0, 1) := by decide +kernel
theorem dX6_asksFor_61 : decode cX6_asksFor 61 = .ok (.ireturn, 1) := by decide +kernel
theorem dX6_placedDay_0 : decode cX6_placedDay 0 = .ok (.iload_n 1, 1) := by decide +kernel
theorem dX6_placedDay_1 : decode cX6_placedDay 1 = .ok (.ifCond .lt 21, 3) := by decide +kernel
theorem dX6_placedDay_4 : decode cX6_placedDay 4 = .ok (.iload_n 1, 1) := by decide +kernel
theorem dX6_placedDay_5 : decode cX6_placedDay 5 = .ok (.aload_n 0, 1) := by decide +kernel
theorem dX6_placedDay_6 : decode cX6_placedDay 6 = .ok (.getfield 26, 3) := by decide +kernel
theorem dX6_placedDay_9 : decode cX6_placedDay 9 = .ok (.arraylength, 1) := by decide +kernel
theorem dX6_placedDay_10 : decode cX6_placedDay 10 = .ok (.if_icmp .ge 12, 3) := by decide +kernel
theorem dX6_placedDay_13 : decode cX6_placedDay 13 = .ok (.aload_n 0, 1) := by decide +kernel
theorem dX6_placedDay_14 : decode cX6_placedDay 14 = .ok (.getfield 26, 3) := by decide +kernel
theorem dX6_placedDay_17 : decode cX6_placedDay 17 = .ok (.iload_n 1, 1) := by decide +kernel
theorem dX6_placedDay_18 : decode cX6_placedDay 18 = .ok (.iaload, 1) := by decide +kernel
theorem dX6_placedDay_19 : decode cX6_placedDay 19 = .ok (.goto 4, 3) := by decide +kernel
theorem dX6_placedDay_22 : decode cX6_placedDay 22 = .ok (.iconst (-1), 1) := by decide +kernel
theorem dX6_placedDay_23 : decode cX6_placedDay 23 = .ok (.ireturn, 1) := by decide +kernel
theorem dX7_init_0 : decode cX7_init 0 = .ok (.aload_n 0, 1) := by decide +kernel
theorem dX7_init_1 : decode cX7_init 1 = .ok (.invokespecial 3, 3) := by decide +kernel
theorem dX7_init_4 : decode cX7_init 4 = .ok (.aload_n 0, 1) := by decide +kernel
theorem dX7_init_5 : decode cX7_init 5 = .ok (.new 9, 3) := by decide +kernel
theorem dX7_init_8 : decode cX7_init 8 = .ok (.dup, 1) := by decide +kernel
theorem dX7_init_9 : decode cX7_init 9 = .ok (.invokespecial 11, 3) := by decide +kernel
theorem dX7_init_12 : decode cX7_init 12 = .ok (.putfield 12, 3) := by decide +kernel
theorem dX7_init_15 : decode cX7_init 15 = .ok (.return_, 1) := by decide +kernel
theorem dX7_start_0 : decode cX7_start 0 = .ok (.aload_n 0, 1) := by decide +kernel
theorem dX7_start_1 : decode cX7_start 1 = .ok (.getfield 12, 3) := by decide +kernel
theorem dX7_start_4 : decode cX7_start 4 = .ok (.aload_n 1, 1) := by decide +kernel
theorem dX7_start_5 : decode cX7_start 5 = .ok (.invokevirtual 18, 3) := by decide +kernel
theorem dX7_start_8 : decode cX7_start 8 = .ok (.aload_n 0, 1) := by decide +kernel
theorem dX7_start_9 : decode cX7_start 9 = .ok (.iload_n 2, 1) := by decide +kernel
theorem dX7_start_10 : decode cX7_start 10 = .ok (.putfield 22, 3) := by decide +kernel
theorem dX7_start_13 : decode cX7_start 13 = .ok (.aload_n 0, 1) := by decide +kernel
theorem dX7_start_14 : decode cX7_start 14 = .ok (.iconst 1, 1) := by decide +kernel
theorem dX7_start_15 : decode cX7_start 15 = .ok (.putfield 26, 3) := by decide +kernel
theorem dX7_start_18 : decode cX7_start 18 = .ok (.return_, 1) := by decide +kernel
theorem dX7_isStarted_0 : decode cX7_isStarted 0 = .ok (.aload_n 0, 1) := by decide +kernel
theorem dX7_isStarted_1 : decode cX7_isStarted 1 = .ok (.getfield 26, 3) := by decide +kernel
theorem dX7_isStarted_4 : decode cX7_isStarted 4 = .ok (.ireturn, 1) := by decide +kernel
theorem dX7_paid_0 : decode cX7_paid 0 = .ok (.aload_n 0, 1) := by decide +kernel
theorem dX7_paid_1 : decode cX7_paid 1 = .ok (.getfield 30, 3) := by decide +kernel
theorem dX7_paid_4 : decode cX7_paid 4 = .ok (.lreturn, 1) := by decide +kernel
theorem dX7_look_0 : decode cX7_look 0 = .ok (.iload_n 1, 1) := by decide +kernel
theorem dX7_look_1 : decode cX7_look 1 = .ok (.istore 4, 2) := by decide +kernel
theorem dX7_look_3 : decode cX7_look 3 = .ok (.aload_n 0, 1) := by decide +kernel
theorem dX7_look_4 : decode cX7_look 4 = .ok (.getfield 22, 3) := by decide +kernel
theorem dX7_look_7 : decode cX7_look 7 = .ok (.istore 5, 2) := by decide +kernel
theorem dX7_look_9 : decode cX7_look 9 = .ok (.iload 5, 2) := by decide +kernel
theorem dX7_look_11 : decode cX7_look 11 = .ok (.sipush 399, 3) := by decide +kernel
theorem dX7_look_14 : decode cX7_look 14 = .ok (.if_icmp .gt 74, 3) := by decide +kernel
theorem dX7_look_17 : decode cX7_look 17 = .ok (.aload_n 2, 1) := by decide +kernel
theorem dX7_look_18 : decode cX7_look 18 = .ok (.iload 5, 2) := by decide +kernel
theorem dX7_look_20 : decode cX7_look 20 = .ok (.iload_n 3, 1) := by decide +kernel
theorem dX7_look_21 : decode cX7_look 21 = .ok (.invokevirtual 34, 3) := by decide +kernel
theorem dX7_look_24 : decode cX7_look 24 = .ok (.aload_n 2, 1) := by decide +kernel
theorem dX7_look_25 : decode cX7_look 25 = .ok (.invokevirtual 40, 3) := by decide +kernel
theorem dX7_look_28 : decode cX7_look 28 = .ok (.istore 6, 2) := by decide +kernel
theorem dX7_look_30 : decode cX7_look 30 = .ok (.iload 6, 2) := by decide +kernel
theorem dX7_look_32 : decode cX7_look 32 = .ok (.iload 4, 2) := by decide +kernel
theorem dX7_look_34 : decode cX7_look 34 = .ok (.if_icmp .le 6, 3) := by decide +kernel
theorem dX7_look_37 : decode cX7_look 37 = .ok (.bipush (-2), 2) := by decide +kernel
theorem dX7_look_39 : decode cX7_look 39 = .ok (.ireturn, 1) := by decide +kernel
theorem dX7_look_40 : decode cX7_look 40 = .ok (.iload 4, 2) := by decide +kernel
theorem dX7_look_42 : decode cX7_look 42 = .ok (.iload 6, 2) := by decide +kernel
theorem dX7_look_44 : decode cX7_look 44 = .ok (.isub, 1) := by decide +kernel
theorem dX7_look_45 : decode cX7_look 45 = .ok (.istore 4, 2) := by decide +kernel
theorem dX7_look_47 : decode cX7_look 47 = .ok (.aload_n 0, 1) := by decide +kernel
theorem dX7_look_48 : decode cX7_look 48 = .ok (.dup, 1) := by decide +kernel
theorem dX7_look_49 : decode cX7_look 49 = .ok (.getfield 30, 3) := by decide +kernel
theorem dX7_look_52 : decode cX7_look 52 = .ok (.iload 6, 2) := by decide +kernel
theorem dX7_look_54 : decode cX7_look 54 = .ok (.i2l, 1) := by decide +kernel
theorem dX7_look_55 : decode cX7_look 55 = .ok (.ladd, 1) := by decide +kernel
theorem dX7_look_56 : decode cX7_look 56 = .ok (.putfield 30, 3) := by decide +kernel
theorem dX7_look_59 : decode cX7_look 59 = .ok (.aload_n 0, 1) := by decide +kernel
theorem dX7_look_60 : decode cX7_look 60 = .ok (.iload 5, 2) := by decide +kernel
theorem dX7_look_62 : decode cX7_look 62 = .ok (.iconst 1, 1) := by decide +kernel
theorem dX7_look_63 : decode cX7_look 63 = .ok (.iadd, 1) := by decide +kernel
theorem dX7_look_64 : decode cX7_look 64 = .ok (.putfield 22, 3) := by decide +kernel
theorem dX7_look_67 : decode cX7_look 67 = .ok (.aload_n 2, 1) := by decide +kernel
theorem dX7_look_68 : decode cX7_look 68 = .ok (.invokevirtual 44, 3) := by decide +kernel
theorem dX7_look_71 : decode cX7_look 71 = .ok (.aload_n 0, 1) := by decide +kernel
theorem dX7_look_72 : decode cX7_look 72 = .ok (.aload_n 2, 1) := by decide +kernel
theorem dX7_look_73 : decode cX7_look 73 = .ok (.invokevirtual 47, 3) := by decide +kernel
theorem dX7_look_76 : decode cX7_look 76 = .ok (.ifCond .eq 6, 3) := by decide +kernel
theorem dX7_look_79 : decode cX7_look 79 = .ok (.iload 5, 2) := by decide +kernel
theorem dX7_look_81 : decode cX7_look 81 = .ok (.ireturn, 1) := by decide +kernel
theorem dX7_look_82 : decode cX7_look 82 = .ok (.iinc 5 1, 3) := by decide +kernel
theorem dX7_look_85 : decode cX7_look 85 = .ok (.goto (-76), 3) := by decide +kernel
theorem dX7_look_88 : decode cX7_look 88 = .ok (.iconst (-1), 1) := by decide +kernel
theorem dX7_look_89 : decode cX7_look 89 = .ok (.ireturn, 1) := by decide +kernel
theorem dX7_questionHolds_0 : decode cX7_questionHolds 0 = .ok (.iconst 0, 1) := by decide +kernel
theorem dX7_questionHolds_1 : decode cX7_questionHolds 1 = .ok (.istore_n 2, 1) := by decide +kernel
theorem dX7_questionHolds_2 : decode cX7_questionHolds 2 = .ok (.iconst 0, 1) := by decide +kernel
theorem dX7_questionHolds_3 : decode cX7_questionHolds 3 = .ok (.istore_n 3, 1) := by decide +kernel
theorem dX7_questionHolds_4 : decode cX7_questionHolds 4 = .ok (.iconst 0, 1) := by decide +kernel
theorem dX7_questionHolds_5 : decode cX7_questionHolds 5 = .ok (.istore 4, 2) := by decide +kernel
theorem dX7_questionHolds_7 : decode cX7_questionHolds 7 = .ok (.iload 4, 2) := by decide +kernel
theorem dX7_questionHolds_9 : decode cX7_questionHolds 9 = .ok (.aload_n 0, 1) := by decide +kernel
theorem dX7_questionHolds_10 : decode cX7_questionHolds 10 = .ok (.getfield 12, 3) := by decide +kernel
theorem dX7_questionHolds_13 : decode cX7_questionHolds 13 = .ok (.invokevirtual 51, 3) := by decide +kernel
theorem dX7_questionHolds_16 : decode cX7_questionHolds 16 = .ok (.if_icmp .ge 82, 3) := by decide +kernel
theorem dX7_questionHolds_19 : decode cX7_questionHolds 19 = .ok (.iload_n 3, 1) := by decide +kernel
theorem dX7_questionHolds_20 : decode cX7_questionHolds 20 = .ok (.aload_n 0, 1) := by decide +kernel
theorem dX7_questionHolds_21 : decode cX7_questionHolds 21 = .ok (.getfield 12, 3) := by decide +kernel
theorem dX7_questionHolds_24 : decode cX7_questionHolds 24 = .ok (.invokevirtual 51, 3) := by decide +kernel
theorem dX7_questionHolds_27 : decode cX7_questionHolds 27 = .ok (.if_icmp .ge 71, 3) := by decide +kernel
theorem dX7_questionHolds_30 : decode cX7_questionHolds 30 = .ok (.aload_n 0, 1) := by decide +kernel
theorem dX7_questionHolds_31 : decode cX7_questionHolds 31 = .ok (.getfield 12, 3) := by decide +kernel
theorem dX7_questionHolds_34 : decode cX7_questionHolds 34 = .ok (.iload_n 3, 1) := by decide +kernel
theorem dX7_questionHolds_35 : decode cX7_questionHolds 35 = .ok (.invokevirtual 54, 3) := by decide +kernel
theorem dX7_questionHolds_38 : decode cX7_questionHolds 38 = .ok (.istore 5, 2) := by decide +kernel
theorem dX7_questionHolds_40 : decode cX7_questionHolds 40 = .ok (.iload 5, 2) := by decide +kernel
theorem dX7_questionHolds_42 : decode cX7_questionHolds 42 = .ok (.bipush 17, 2) := by decide +kernel
theorem dX7_questionHolds_44 : decode cX7_questionHolds 44 = .ok (.if_icmp .ne 16, 3) := by decide +kernel
theorem dX7_questionHolds_47 : decode cX7_questionHolds 47 = .ok (.iload_n 2, 1) := by decide +kernel
theorem dX7_questionHolds_48 : decode cX7_questionHolds 48 = .ok (.ifCond .ne 7, 3) := by decide +kernel
theorem dX7_questionHolds_51 : decode cX7_questionHolds 51 = .ok (.iconst 1, 1) := by decide +kernel
theorem dX7_questionHolds_52 : decode cX7_questionHolds 52 = .ok (.goto 4, 3) := by decide +kernel
theorem dX7_questionHolds_55 : decode cX7_questionHolds 55 = .ok (.iconst 0, 1) := by decide +kernel
theorem dX7_questionHolds_56 : decode cX7_questionHolds 56 = .ok (.istore_n 2, 1) := by decide +kernel
theorem dX7_questionHolds_57 : decode cX7_questionHolds 57 = .ok (.goto 25, 3) := by decide +kernel
theorem dX7_questionHolds_60 : decode cX7_questionHolds 60 = .ok (.iload 5, 2) := by decide +kernel
theorem dX7_questionHolds_62 : decode cX7_questionHolds 62 = .ok (.bipush 21, 2) := by decide +kernel
theorem dX7_questionHolds_64 : decode cX7_questionHolds 64 = .ok (.if_icmp .lt 18, 3) := by decide +kernel
theorem dX7_questionHolds_67 : decode cX7_questionHolds 67 = .ok (.aload_n 1, 1) := by decide +kernel
theorem dX7_questionHolds_68 : decode cX7_questionHolds 68 = .ok (.iload 5, 2) := by decide +kernel
theorem dX7_questionHolds_70 : decode cX7_questionHolds 70 = .ok (.aload_n 0, 1) := by decide +kernel
theorem dX7_questionHolds_71 : decode cX7_questionHolds 71 = .ok (.getfield 12, 3) := by decide +kernel
theorem dX7_questionHolds_74 : decode cX7_questionHolds 74 = .ok (.iload_n 3, 1) := by decide +kernel
theorem dX7_questionHolds_75 : decode cX7_questionHolds 75 = .ok (.invokevirtual 58, 3) := by decide +kernel
theorem dX7_questionHolds_78 : decode cX7_questionHolds 78 = .ok (.invokevirtual 61, 3) := by decide +kernel
theorem dX7_questionHolds_81 : decode cX7_questionHolds 81 = .ok (.istore_n 2, 1) := by decide +kernel
theorem dX7_questionHolds_82 : decode cX7_questionHolds 82 = .ok (.aload_n 0, 1) := by decide +kernel
theorem dX7_questionHolds_83 : decode cX7_questionHolds 83 = .ok (.getfield 12, 3) := by decide +kernel
theorem dX7_questionHolds_86 : decode cX7_questionHolds 86 = .ok (.iload_n 3, 1) := by decide +kernel
theorem dX7_questionHolds_87 : decode cX7_questionHolds 87 = .ok (.iload_n 2, 1) := by decide +kernel
theorem dX7_questionHolds_88 : decode cX7_questionHolds 88 = .ok (.invokevirtual 65, 3) := by decide +kernel
theorem dX7_questionHolds_91 : decode cX7_questionHolds 91 = .ok (.istore_n 3, 1) := by decide +kernel
theorem dX7_questionHolds_92 : decode cX7_questionHolds 92 = .ok (.iinc 4 1, 3) := by decide +kernel
theorem dX7_questionHolds_95 : decode cX7_questionHolds 95 = .ok (.goto (-88), 3) := by decide +kernel
theorem dX7_questionHolds_98 : decode cX7_questionHolds 98 = .ok (.iload_n 2, 1) := by decide +kernel
theorem dX7_questionHolds_99 : decode cX7_questionHolds 99 = .ok (.ireturn, 1) := by decide +kernel
theorem dX10_init_0 : decode cX10_init 0 = .ok (.aload_n 0, 1) := by decide +kernel
theorem dX10_init_1 : decode cX10_init 1 = .ok (.invokespecial 3, 3) := by decide +kernel
theorem dX10_init_4 : decode cX10_init 4 = .ok (.aload_n 0, 1) := by decide +kernel
theorem dX10_init_5 : decode cX10_init 5 = .ok (.new 9, 3) := by decide +kernel
theorem dX10_init_8 : decode cX10_init 8 = .ok (.dup, 1) := by decide +kernel
theorem dX10_init_9 : decode cX10_init 9 = .ok (.invokespecial 11, 3) := by decide +kernel
theorem dX10_init_12 : decode cX10_init 12 = .ok (.putfield 12, 3) := by decide +kernel
theorem dX10_init_15 : decode cX10_init 15 = .ok (.aload_n 0, 1) := by decide +kernel
theorem dX10_init_16 : decode cX10_init 16 = .ok (.bipush 20, 2) := by decide +kernel
theorem dX10_init_18 : decode cX10_init 18 = .ok (.newarray .int, 2) := by decide +kernel
theorem dX10_init_20 : decode cX10_init 20 = .ok (.putfield 20, 3) := by decide +kernel
theorem dX10_init_23 : decode cX10_init 23 = .ok (.aload_n 0, 1) := by decide +kernel
theorem dX10_init_24 : decode cX10_init 24 = .ok (.bipush 20, 2) := by decide +kernel
theorem dX10_init_26 : decode cX10_init 26 = .ok (.newarray .int, 2) := by decide +kernel
theorem dX10_init_28 : decode cX10_init 28 = .ok (.putfield 24, 3) := by decide +kernel
theorem dX10_init_31 : decode cX10_init 31 = .ok (.aload_n 0, 1) := by decide +kernel
theorem dX10_init_32 : decode cX10_init 32 = .ok (.bipush 20, 2) := by decide +kernel
theorem dX10_init_34 : decode cX10_init 34 = .ok (.newarray .int, 2) := by decide +kernel
theorem dX10_init_36 : decode cX10_init 36 = .ok (.putfield 27, 3) := by decide +kernel
theorem dX10_init_39 : decode cX10_init 39 = .ok (.aload_n 0, 1) := by decide +kernel
theorem dX10_init_40 : decode cX10_init 40 = .ok (.sipush 366, 3) := by decide +kernel
theorem dX10_init_43 : decode cX10_init 43 = .ok (.newarray .int, 2) := by decide +kernel
theorem dX10_init_45 : decode cX10_init 45 = .ok (.putfield 30, 3) := by decide +kernel
theorem dX10_init_48 : decode cX10_init 48 = .ok (.aload_n 0, 1) := by decide +kernel
theorem dX10_init_49 : decode cX10_init 49 = .ok (.aload_n 1, 1) := by decide +kernel
theorem dX10_init_50 : decode cX10_init 50 = .ok (.putfield 33, 3) := by decide +kernel
theorem dX10_init_53 : decode cX10_init 53 = .ok (.return_, 1) := by decide +kernel
theorem dX10_reckon_0 : decode cX10_reckon 0 = .ok (.aload_n 0, 1) := by decide +kernel
theorem dX10_reckon_1 : decode cX10_reckon 1 = .ok (.iload_n 1, 1) := by decide +kernel
theorem dX10_reckon_2 : decode cX10_reckon 2 = .ok (.putfield 37, 3) := by decide +kernel
theorem dX10_reckon_5 : decode cX10_reckon 5 = .ok (.aload_n 0, 1) := by decide +kernel
theorem dX10_reckon_6 : decode cX10_reckon 6 = .ok (.aload_n 0, 1) := by decide +kernel
theorem dX10_reckon_7 : decode cX10_reckon 7 = .ok (.getfield 37, 3) := by decide +kernel
theorem dX10_reckon_10 : decode cX10_reckon 10 = .ok (.invokestatic 41, 3) := by decide +kernel
theorem dX10_reckon_13 : decode cX10_reckon 13 = .ok (.putfield 47, 3) := by decide +kernel
theorem dX10_reckon_16 : decode cX10_reckon 16 = .ok (.iconst 0, 1) := by decide +kernel
theorem dX10_reckon_17 : decode cX10_reckon 17 = .ok (.istore_n 3, 1) := by decide +kernel
theorem dX10_reckon_18 : decode cX10_reckon 18 = .ok (.iload_n 3, 1) := by decide +kernel
theorem dX10_reckon_19 : decode cX10_reckon 19 = .ok (.aload_n 0, 1) := by decide +kernel
theorem dX10_reckon_20 : decode cX10_reckon 20 = .ok (.getfield 33, 3) := by decide +kernel
theorem dX10_reckon_23 : decode cX10_reckon 23 = .ok (.invokevirtual 50, 3) := by decide +kernel
theorem dX10_reckon_26 : decode cX10_reckon 26 = .ok (.if_icmp .ge 78, 3) := by decide +kernel
theorem dX10_reckon_29 : decode cX10_reckon 29 = .ok (.aload_n 0, 1) := by decide +kernel
theorem dX10_reckon_30 : decode cX10_reckon 30 = .ok (.getfield 33, 3) := by decide +kernel
theorem dX10_reckon_33 : decode cX10_reckon 33 = .ok (.iload_n 3, 1) := by decide +kernel
theorem dX10_reckon_34 : decode cX10_reckon 34 = .ok (.invokevirtual 54, 3) := by decide +kernel
theorem dX10_reckon_37 : decode cX10_reckon 37 = .ok (.istore 4, 2) := by decide +kernel
theorem dX10_reckon_39 : decode cX10_reckon 39 = .ok (.aload_n 0, 1) := by decide +kernel
theorem dX10_reckon_40 : decode cX10_reckon 40 = .ok (.getfield 12, 3) := by decide +kernel
theorem dX10_reckon_43 : decode cX10_reckon 43 = .ok (.aload_n 0, 1) := by decide +kernel
theorem dX10_reckon_44 : decode cX10_reckon 44 = .ok (.getfield 37, 3) := by decide +kernel
theorem dX10_reckon_47 : decode cX10_reckon 47 = .ok (.iload_n 2, 1) := by decide +kernel
theorem dX10_reckon_48 : decode cX10_reckon 48 = .ok (.invokevirtual 57, 3) := by decide +kernel
theorem dX10_reckon_51 : decode cX10_reckon 51 = .ok (.aload_n 0, 1) := by decide +kernel
theorem dX10_reckon_52 : decode cX10_reckon 52 = .ok (.getfield 24, 3) := by decide +kernel
theorem dX10_reckon_55 : decode cX10_reckon 55 = .ok (.iload 4, 2) := by decide +kernel
theorem dX10_reckon_57 : decode cX10_reckon 57 = .ok (.aload_n 0, 1) := by decide +kernel
theorem dX10_reckon_58 : decode cX10_reckon 58 = .ok (.aload_n 0, 1) := by decide +kernel
theorem dX10_reckon_59 : decode cX10_reckon 59 = .ok (.getfield 33, 3) := by decide +kernel
theorem dX10_reckon_62 : decode cX10_reckon 62 = .ok (.iload 4, 2) := by decide +kernel
theorem dX10_reckon_64 : decode cX10_reckon 64 = .ok (.invokevirtual 61, 3) := by decide +kernel
theorem dX10_reckon_67 : decode cX10_reckon 67 = .ok (.invokevirtual 65, 3) := by decide +kernel
theorem dX10_reckon_70 : decode cX10_reckon 70 = .ok (.iastore, 1) := by decide +kernel
theorem dX10_reckon_71 : decode cX10_reckon 71 = .ok (.aload_n 0, 1) := by decide +kernel
theorem dX10_reckon_72 : decode cX10_reckon 72 = .ok (.getfield 20, 3) := by decide +kernel
theorem dX10_reckon_75 : decode cX10_reckon 75 = .ok (.iload 4, 2) := by decide +kernel
theorem dX10_reckon_77 : decode cX10_reckon 77 = .ok (.aload_n 0, 1) := by decide +kernel
theorem dX10_reckon_78 : decode cX10_reckon 78 = .ok (.getfield 33, 3) := by decide +kernel
theorem dX10_reckon_81 : decode cX10_reckon 81 = .ok (.iload 4, 2) := by decide +kernel
theorem dX10_reckon_83 : decode cX10_reckon 83 = .ok (.aload_n 0, 1) := by decide +kernel
theorem dX10_reckon_84 : decode cX10_reckon 84 = .ok (.getfield 37, 3) := by decide +kernel
theorem dX10_reckon_87 : decode cX10_reckon 87 = .ok (.aload_n 0, 1) := by decide +kernel
theorem dX10_reckon_88 : decode cX10_reckon 88 = .ok (.getfield 12, 3) := by decide +kernel
theorem dX10_reckon_91 : decode cX10_reckon 91 = .ok (.invokevirtual 69, 3) := by decide +kernel
theorem dX10_reckon_94 : decode cX10_reckon 94 = .ok (.invokevirtual 72, 3) := by decide +kernel
theorem dX10_reckon_97 : decode cX10_reckon 97 = .ok (.iastore, 1) := by decide +kernel
theorem dX10_reckon_98 : decode cX10_reckon 98 = .ok (.iinc 3 1, 3) := by decide +kernel
theorem dX10_reckon_101 : decode cX10_reckon 101 = .ok (.goto (-83), 3) := by decide +kernel
theorem dX10_reckon_104 : decode cX10_reckon 104 = .ok (.return_, 1) := by decide +kernel
theorem dX10_goThrough_0 : decode cX10_goThrough 0 = .ok (.iconst 0, 1) := by decide +kernel
theorem dX10_goThrough_1 : decode cX10_goThrough 1 = .ok (.istore_n 2, 1) := by decide +kernel
theorem dX10_goThrough_2 : decode cX10_goThrough 2 = .ok (.iconst 0, 1) := by decide +kernel
theorem dX10_goThrough_3 : decode cX10_goThrough 3 = .ok (.istore_n 3, 1) := by decide +kernel
theorem dX10_goThrough_4 : decode cX10_goThrough 4 = .ok (.iconst 0, 1) := by decide +kernel
theorem dX10_goThrough_5 : decode cX10_goThrough 5 = .ok (.istore 4, 2) := by decide +kernel
theorem dX10_goThrough_7 : decode cX10_goThrough 7 = .ok (.iconst 0, 1) := by decide +kernel
theorem dX10_goThrough_8 : decode cX10_goThrough 8 = .ok (.istore 5, 2) := by decide +kernel
theorem dX10_goThrough_10 : decode cX10_goThrough 10 = .ok (.iload 5, 2) := by decide +kernel
theorem dX10_goThrough_12 : decode cX10_goThrough 12 = .ok (.aload_n 1, 1) := by decide +kernel
theorem dX10_goThrough_13 : decode cX10_goThrough 13 = .ok (.invokevirtual 76, 3) := by decide +kernel
theorem dX10_goThrough_16 : decode cX10_goThrough 16 = .ok (.if_icmp .ge 141, 3) := by decide +kernel
theorem dX10_goThrough_19 : decode cX10_goThrough 19 = .ok (.iload 4, 2) := by decide +kernel
theorem dX10_goThrough_21 : decode cX10_goThrough 21 = .ok (.aload_n 1, 1) := by decide +kernel
theorem dX10_goThrough_22 : decode cX10_goThrough 22 = .ok (.invokevirtual 76, 3) := by decide +kernel
theorem dX10_goThrough_25 : decode cX10_goThrough 25 = .ok (.if_icmp .ge 132, 3) := by decide +kernel
theorem dX10_goThrough_28 : decode cX10_goThrough 28 = .ok (.aload_n 1, 1) := by decide +kernel
theorem dX10_goThrough_29 : decode cX10_goThrough 29 = .ok (.iload 4, 2) := by decide +kernel
theorem dX10_goThrough_31 : decode cX10_goThrough 31 = .ok (.invokevirtual 79, 3) := by decide +kernel
theorem dX10_goThrough_34 : decode cX10_goThrough 34 = .ok (.istore 6, 2) := by decide +kernel
theorem dX10_goThrough_36 : decode cX10_goThrough 36 = .ok (.aload_n 1, 1) := by decide +kernel
theorem dX10_goThrough_37 : decode cX10_goThrough 37 = .ok (.iload 4, 2) := by decide +kernel
theorem dX10_goThrough_39 : decode cX10_goThrough 39 = .ok (.invokevirtual 82, 3) := by decide +kernel
theorem dX10_goThrough_42 : decode cX10_goThrough 42 = .ok (.istore 7, 2) := by decide +kernel
theorem dX10_goThrough_44 : decode cX10_goThrough 44 = .ok (.iload_n 2, 1) := by decide +kernel
theorem dX10_goThrough_45 : decode cX10_goThrough 45 = .ok (.iload 6, 2) := by decide +kernel
theorem dX10_goThrough_47 : decode cX10_goThrough 47 = .ok (.ifCond .lt 21, 3) := by decide +kernel
theorem dX10_goThrough_50 : decode cX10_goThrough 50 = .ok (.iload 6, 2) := by decide +kernel
theorem dX10_goThrough_52 : decode cX10_goThrough 52 = .ok (.getstatic 85, 3) := by decide +kernel
theorem dX10_goThrough_55 : decode cX10_goThrough 55 = .ok (.arraylength, 1) := by decide +kernel
theorem dX10_goThrough_56 : decode cX10_goThrough 56 = .ok (.if_icmp .ge 12, 3) := by decide +kernel
theorem dX10_goThrough_59 : decode cX10_goThrough 59 = .ok (.getstatic 85, 3) := by decide +kernel
theorem dX10_goThrough_62 : decode cX10_goThrough 62 = .ok (.iload 6, 2) := by decide +kernel
theorem dX10_goThrough_64 : decode cX10_goThrough 64 = .ok (.iaload, 1) := by decide +kernel
theorem dX10_goThrough_65 : decode cX10_goThrough 65 = .ok (.goto 4, 3) := by decide +kernel
theorem dX10_goThrough_68 : decode cX10_goThrough 68 = .ok (.iconst 0, 1) := by decide +kernel
theorem dX10_goThrough_69 : decode cX10_goThrough 69 = .ok (.iadd, 1) := by decide +kernel
theorem dX10_goThrough_70 : decode cX10_goThrough 70 = .ok (.istore_n 2, 1) := by decide +kernel
theorem dX10_goThrough_71 : decode cX10_goThrough 71 = .ok (.iload 6, 2) := by decide +kernel
theorem dX10_goThrough_73 : decode cX10_goThrough 73 = .ok (.bipush 17, 2) := by decide +kernel
theorem dX10_goThrough_75 : decode cX10_goThrough 75 = .ok (.if_icmp .ne 16, 3) := by decide +kernel
theorem dX10_goThrough_78 : decode cX10_goThrough 78 = .ok (.iload_n 3, 1) := by decide +kernel
theorem dX10_goThrough_79 : decode cX10_goThrough 79 = .ok (.ifCond .ne 7, 3) := by decide +kernel
theorem dX10_goThrough_82 : decode cX10_goThrough 82 = .ok (.iconst 1, 1) := by decide +kernel
theorem dX10_goThrough_83 : decode cX10_goThrough 83 = .ok (.goto 4, 3) := by decide +kernel
theorem dX10_goThrough_86 : decode cX10_goThrough 86 = .ok (.iconst 0, 1) := by decide +kernel
theorem dX10_goThrough_87 : decode cX10_goThrough 87 = .ok (.istore_n 3, 1) := by decide +kernel
theorem dX10_goThrough_88 : decode cX10_goThrough 88 = .ok (.goto 54, 3) := by decide +kernel
theorem dX10_goThrough_91 : decode cX10_goThrough 91 = .ok (.iload 6, 2) := by decide +kernel
theorem dX10_goThrough_93 : decode cX10_goThrough 93 = .ok (.bipush 13, 2) := by decide +kernel
theorem dX10_goThrough_95 : decode cX10_goThrough 95 = .ok (.if_icmp .lt 22, 3) := by decide +kernel
theorem dX10_goThrough_98 : decode cX10_goThrough 98 = .ok (.iload 6, 2) := by decide +kernel
theorem dX10_goThrough_100 : decode cX10_goThrough 100 = .ok (.bipush 16, 2) := by decide +kernel
theorem dX10_goThrough_102 : decode cX10_goThrough 102 = .ok (.if_icmp .gt 15, 3) := by decide +kernel
theorem dX10_goThrough_105 : decode cX10_goThrough 105 = .ok (.aload_n 0, 1) := by decide +kernel
theorem dX10_goThrough_106 : decode cX10_goThrough 106 = .ok (.iload 6, 2) := by decide +kernel
theorem dX10_goThrough_108 : decode cX10_goThrough 108 = .ok (.iload 7, 2) := by decide +kernel
theorem dX10_goThrough_110 : decode cX10_goThrough 110 = .ok (.invokevirtual 88, 3) := by decide +kernel
theorem dX10_goThrough_113 : decode cX10_goThrough 113 = .ok (.istore_n 3, 1) := by decide +kernel
theorem dX10_goThrough_114 : decode cX10_goThrough 114 = .ok (.goto 28, 3) := by decide +kernel
theorem dX10_goThrough_117 : decode cX10_goThrough 117 = .ok (.iload 6, 2) := by decide +kernel
theorem dX10_goThrough_119 : decode cX10_goThrough 119 = .ok (.iconst 4, 1) := by decide +kernel
theorem dX10_goThrough_120 : decode cX10_goThrough 120 = .ok (.if_icmp .gt 14, 3) := by decide +kernel
theorem dX10_goThrough_123 : decode cX10_goThrough 123 = .ok (.aload_n 0, 1) := by decide +kernel
theorem dX10_goThrough_124 : decode cX10_goThrough 124 = .ok (.iload 6, 2) := by decide +kernel
theorem dX10_goThrough_126 : decode cX10_goThrough 126 = .ok (.iload 7, 2) := by decide +kernel
theorem dX10_goThrough_128 : decode cX10_goThrough 128 = .ok (.invokevirtual 92, 3) := by decide +kernel
theorem dX10_goThrough_131 : decode cX10_goThrough 131 = .ok (.goto 11, 3) := by decide +kernel
theorem dX10_goThrough_134 : decode cX10_goThrough 134 = .ok (.aload_n 0, 1) := by decide +kernel
theorem dX10_goThrough_135 : decode cX10_goThrough 135 = .ok (.iload 6, 2) := by decide +kernel
theorem dX10_goThrough_137 : decode cX10_goThrough 137 = .ok (.iload 7, 2) := by decide +kernel
theorem dX10_goThrough_139 : decode cX10_goThrough 139 = .ok (.invokevirtual 95, 3) := by decide +kernel
theorem dX10_goThrough_142 : decode cX10_goThrough 142 = .ok (.aload_n 1, 1) := by decide +kernel
theorem dX10_goThrough_143 : decode cX10_goThrough 143 = .ok (.iload 4, 2) := by decide +kernel
theorem dX10_goThrough_145 : decode cX10_goThrough 145 = .ok (.iload_n 3, 1) := by decide +kernel
theorem dX10_goThrough_146 : decode cX10_goThrough 146 = .ok (.invokevirtual 98, 3) := by decide +kernel
theorem dX10_goThrough_149 : decode cX10_goThrough 149 = .ok (.istore 4, 2) := by decide +kernel
theorem dX10_goThrough_151 : decode cX10_goThrough 151 = .ok (.iinc 5 1, 3) := by decide +kernel
theorem dX10_goThrough_154 : decode cX10_goThrough 154 = .ok (.goto (-144), 3) := by decide +kernel
theorem dX10_goThrough_157 : decode cX10_goThrough 157 = .ok (.iload_n 2, 1) := by decide +kernel
theorem dX10_goThrough_158 : decode cX10_goThrough 158 = .ok (.ireturn, 1) := by decide +kernel
theorem dX10_goToStart_0 : decode cX10_goToStart 0 = .ok (.iload_n 1, 1) := by decide +kernel
theorem dX10_goToStart_1 : decode cX10_goToStart 1 = .ok (.tableswitch 82 1 3 #[27, 38, 64], 27) := by decide +kernel
theorem dX10_goToStart_28 : decode cX10_goToStart 28 = .ok (.aload_n 0, 1) := by decide +kernel
theorem dX10_goToStart_29 : decode cX10_goToStart 29 = .ok (.getfield 12, 3) := by decide +kernel
theorem dX10_goToStart_32 : decode cX10_goToStart 32 = .ok (.iload_n 2, 1) := by decide +kernel
theorem dX10_goToStart_33 : decode cX10_goToStart 33 = .ok (.invokevirtual 102, 3) := by decide +kernel
theorem dX10_goToStart_36 : decode cX10_goToStart 36 = .ok (.goto 59, 3) := by decide +kernel
theorem dX10_goToStart_39 : decode cX10_goToStart 39 = .ok (.aload_n 0, 1) := by decide +kernel
theorem dX10_goToStart_40 : decode cX10_goToStart 40 = .ok (.getfield 12, 3) := by decide +kernel
theorem dX10_goToStart_43 : decode cX10_goToStart 43 = .ok (.iload_n 2, 1) := by decide +kernel
theorem dX10_goToStart_44 : decode cX10_goToStart 44 = .ok (.sipush 1000, 3) := by decide +kernel
theorem dX10_goToStart_47 : decode cX10_goToStart 47 = .ok (.idiv, 1) := by decide +kernel
theorem dX10_goToStart_48 : decode cX10_goToStart 48 = .ok (.iload_n 2, 1) := by decide +kernel
theorem dX10_goToStart_49 : decode cX10_goToStart 49 = .ok (.bipush 100, 2) := by decide +kernel
theorem dX10_goToStart_51 : decode cX10_goToStart 51 = .ok (.idiv, 1) := by decide +kernel
theorem dX10_goToStart_52 : decode cX10_goToStart 52 = .ok (.bipush 10, 2) := by decide +kernel
theorem dX10_goToStart_54 : decode cX10_goToStart 54 = .ok (.irem, 1) := by decide +kernel
theorem dX10_goToStart_55 : decode cX10_goToStart 55 = .ok (.iload_n 2, 1) := by decide +kernel
theorem dX10_goToStart_56 : decode cX10_goToStart 56 = .ok (.bipush 100, 2) := by decide +kernel
theorem dX10_goToStart_58 : decode cX10_goToStart 58 = .ok (.irem, 1) := by decide +kernel
theorem dX10_goToStart_59 : decode cX10_goToStart 59 = .ok (.invokevirtual 106, 3) := by decide +kernel
theorem dX10_goToStart_62 : decode cX10_goToStart 62 = .ok (.goto 33, 3) := by decide +kernel
theorem dX10_goToStart_65 : decode cX10_goToStart 65 = .ok (.aload_n 0, 1) := by decide +kernel
theorem dX10_goToStart_66 : decode cX10_goToStart 66 = .ok (.getfield 12, 3) := by decide +kernel
theorem dX10_goToStart_69 : decode cX10_goToStart 69 = .ok (.iload_n 2, 1) := by decide +kernel
theorem dX10_goToStart_70 : decode cX10_goToStart 70 = .ok (.bipush 100, 2) := by decide +kernel
theorem dX10_goToStart_72 : decode cX10_goToStart 72 = .ok (.idiv, 1) := by decide +kernel
theorem dX10_goToStart_73 : decode cX10_goToStart 73 = .ok (.iload_n 2, 1) := by decide +kernel
theorem dX10_goToStart_74 : decode cX10_goToStart 74 = .ok (.bipush 100, 2) := by decide +kernel
theorem dX10_goToStart_76 : decode cX10_goToStart 76 = .ok (.irem, 1) := by decide +kernel
theorem dX10_goToStart_77 : decode cX10_goToStart 77 = .ok (.invokevirtual 110, 3) := by decide +kernel
theorem dX10_goToStart_80 : decode cX10_goToStart 80 = .ok (.goto 15, 3) := by decide +kernel
theorem dX10_goToStart_83 : decode cX10_goToStart 83 = .ok (.aload_n 0, 1) := by decide +kernel
theorem dX10_goToStart_84 : decode cX10_goToStart 84 = .ok (.getfield 12, 3) := by decide +kernel
theorem dX10_goToStart_87 : decode cX10_goToStart 87 = .ok (.aload_n 0, 1) := by decide +kernel
theorem dX10_goToStart_88 : decode cX10_goToStart 88 = .ok (.iload_n 2, 1) := by decide +kernel
theorem dX10_goToStart_89 : decode cX10_goToStart 89 = .ok (.invokevirtual 113, 3) := by decide +kernel
theorem dX10_goToStart_92 : decode cX10_goToStart 92 = .ok (.invokevirtual 116, 3) := by decide +kernel
theorem dX10_goToStart_95 : decode cX10_goToStart 95 = .ok (.return_, 1) := by decide +kernel
theorem dX10_move_0 : decode cX10_move 0 = .ok (.iload_n 1, 1) := by decide +kernel
theorem dX10_move_1 : decode cX10_move 1 = .ok (.tableswitch 139 5 12 #[47, 62, 73, 84, 95, 106, 118, 129], 47) := by decide +kernel
theorem dX10_move_48 : decode cX10_move 48 = .ok (.aload_n 0, 1) := by decide +kernel
theorem dX10_move_49 : decode cX10_move 49 = .ok (.getfield 12, 3) := by decide +kernel
theorem dX10_move_52 : decode cX10_move 52 = .ok (.iload_n 2, 1) := by decide +kernel
theorem dX10_move_53 : decode cX10_move 53 = .ok (.sipush 5000, 3) := by decide +kernel
theorem dX10_move_56 : decode cX10_move 56 = .ok (.isub, 1) := by decide +kernel
theorem dX10_move_57 : decode cX10_move 57 = .ok (.invokevirtual 119, 3) := by decide +kernel
theorem dX10_move_60 : decode cX10_move 60 = .ok (.goto 80, 3) := by decide +kernel
theorem dX10_move_63 : decode cX10_move 63 = .ok (.aload_n 0, 1) := by decide +kernel
theorem dX10_move_64 : decode cX10_move 64 = .ok (.getfield 12, 3) := by decide +kernel
theorem dX10_move_67 : decode cX10_move 67 = .ok (.iload_n 2, 1) := by decide +kernel
theorem dX10_move_68 : decode cX10_move 68 = .ok (.invokevirtual 122, 3) := by decide +kernel
theorem dX10_move_71 : decode cX10_move 71 = .ok (.goto 69, 3) := by decide +kernel
theorem dX10_move_74 : decode cX10_move 74 = .ok (.aload_n 0, 1) := by decide +kernel
theorem dX10_move_75 : decode cX10_move 75 = .ok (.getfield 12, 3) := by decide +kernel
theorem dX10_move_78 : decode cX10_move 78 = .ok (.iload_n 2, 1) := by decide +kernel
theorem dX10_move_79 : decode cX10_move 79 = .ok (.invokevirtual 125, 3) := by decide +kernel
theorem dX10_move_82 : decode cX10_move 82 = .ok (.goto 58, 3) := by decide +kernel
theorem dX10_move_85 : decode cX10_move 85 = .ok (.aload_n 0, 1) := by decide +kernel
theorem dX10_move_86 : decode cX10_move 86 = .ok (.getfield 12, 3) := by decide +kernel
theorem dX10_move_89 : decode cX10_move 89 = .ok (.iload_n 2, 1) := by decide +kernel
theorem dX10_move_90 : decode cX10_move 90 = .ok (.invokevirtual 128, 3) := by decide +kernel
theorem dX10_move_93 : decode cX10_move 93 = .ok (.goto 47, 3) := by decide +kernel
theorem dX10_move_96 : decode cX10_move 96 = .ok (.aload_n 0, 1) := by decide +kernel
theorem dX10_move_97 : decode cX10_move 97 = .ok (.getfield 12, 3) := by decide +kernel
theorem dX10_move_100 : decode cX10_move 100 = .ok (.iload_n 2, 1) := by decide +kernel
theorem dX10_move_101 : decode cX10_move 101 = .ok (.invokevirtual 131, 3) := by decide +kernel
theorem dX10_move_104 : decode cX10_move 104 = .ok (.goto 36, 3) := by decide +kernel
theorem dX10_move_107 : decode cX10_move 107 = .ok (.aload_n 0, 1) := by decide +kernel
theorem dX10_move_108 : decode cX10_move 108 = .ok (.getfield 12, 3) := by decide +kernel
theorem dX10_move_111 : decode cX10_move 111 = .ok (.bipush 14, 2) := by decide +kernel
theorem dX10_move_113 : decode cX10_move 113 = .ok (.invokevirtual 134, 3) := by decide +kernel
theorem dX10_move_116 : decode cX10_move 116 = .ok (.goto 24, 3) := by decide +kernel
theorem dX10_move_119 : decode cX10_move 119 = .ok (.aload_n 0, 1) := by decide +kernel
theorem dX10_move_120 : decode cX10_move 120 = .ok (.getfield 12, 3) := by decide +kernel
theorem dX10_move_123 : decode cX10_move 123 = .ok (.iconst 0, 1) := by decide +kernel
theorem dX10_move_124 : decode cX10_move 124 = .ok (.invokevirtual 134, 3) := by decide +kernel
theorem dX10_move_127 : decode cX10_move 127 = .ok (.goto 13, 3) := by decide +kernel
theorem dX10_move_130 : decode cX10_move 130 = .ok (.aload_n 0, 1) := by decide +kernel
theorem dX10_move_131 : decode cX10_move 131 = .ok (.getfield 12, 3) := by decide +kernel
theorem dX10_move_134 : decode cX10_move 134 = .ok (.invokevirtual 137, 3) := by decide +kernel
theorem dX10_move_137 : decode cX10_move 137 = .ok (.goto 3, 3) := by decide +kernel
theorem dX10_move_140 : decode cX10_move 140 = .ok (.return_, 1) := by decide +kernel
theorem dX10_conditionHolds_0 : decode cX10_conditionHolds 0 = .ok (.iload_n 1, 1) := by decide +kernel
theorem dX10_conditionHolds_1 : decode cX10_conditionHolds 1 = .ok (.tableswitch 57 13 15 #[27, 36, 44], 27) := by decide +kernel
theorem dX10_conditionHolds_28 : decode cX10_conditionHolds 28 = .ok (.aload_n 0, 1) := by decide +kernel
theorem dX10_conditionHolds_29 : decode cX10_conditionHolds 29 = .ok (.getfield 12, 3) := by decide +kernel
theorem dX10_conditionHolds_32 : decode cX10_conditionHolds 32 = .ok (.iload_n 2, 1) := by decide +kernel
theorem dX10_conditionHolds_33 : decode cX10_conditionHolds 33 = .ok (.invokevirtual 140, 3) := by decide +kernel
theorem dX10_conditionHolds_36 : decode cX10_conditionHolds 36 = .ok (.ireturn, 1) := by decide +kernel
theorem dX10_conditionHolds_37 : decode cX10_conditionHolds 37 = .ok (.aload_n 0, 1) := by decide +kernel
theorem dX10_conditionHolds_38 : decode cX10_conditionHolds 38 = .ok (.getfield 12, 3) := by decide +kernel
theorem dX10_conditionHolds_41 : decode cX10_conditionHolds 41 = .ok (.invokevirtual 144, 3) := by decide +kernel
theorem dX10_conditionHolds_44 : decode cX10_conditionHolds 44 = .ok (.ireturn, 1) := by decide +kernel
theorem dX10_conditionHolds_45 : decode cX10_conditionHolds 45 = .ok (.aload_n 0, 1) := by decide +kernel
theorem dX10_conditionHolds_46 : decode cX10_conditionHolds 46 = .ok (.getfield 12, 3) := by decide +kernel
theorem dX10_conditionHolds_49 : decode cX10_conditionHolds 49 = .ok (.aload_n 0, 1) := by decide +kernel
theorem dX10_conditionHolds_50 : decode cX10_conditionHolds 50 = .ok (.iload_n 2, 1) := by decide +kernel
theorem dX10_conditionHolds_51 : decode cX10_conditionHolds 51 = .ok (.invokevirtual 113, 3) := by decide +kernel
theorem dX10_conditionHolds_54 : decode cX10_conditionHolds 54 = .ok (.invokevirtual 148, 3) := by decide +kernel
theorem dX10_conditionHolds_57 : decode cX10_conditionHolds 57 = .ok (.ireturn, 1) := by decide +kernel
theorem dX10_conditionHolds_58 : decode cX10_conditionHolds 58 = .ok (.aload_n 0, 1) := by decide +kernel
theorem dX10_conditionHolds_59 : decode cX10_conditionHolds 59 = .ok (.getfield 12, 3) := by decide +kernel
theorem dX10_conditionHolds_62 : decode cX10_conditionHolds 62 = .ok (.iload_n 2, 1) := by decide +kernel
theorem dX10_conditionHolds_63 : decode cX10_conditionHolds 63 = .ok (.invokevirtual 151, 3) := by decide +kernel
theorem dX10_conditionHolds_66 : decode cX10_conditionHolds 66 = .ok (.ireturn, 1) := by decide +kernel
theorem dX10_bentDay_0 : decode cX10_bentDay 0 = .ok (.iload_n 1, 1) := by decide +kernel
theorem dX10_bentDay_1 : decode cX10_bentDay 1 = .ok (.ifCond .lt 21, 3) := by decide +kernel
theorem dX10_bentDay_4 : decode cX10_bentDay 4 = .ok (.iload_n 1, 1) := by decide +kernel
theorem dX10_bentDay_5 : decode cX10_bentDay 5 = .ok (.aload_n 0, 1) := by decide +kernel
theorem dX10_bentDay_6 : decode cX10_bentDay 6 = .ok (.getfield 20, 3) := by decide +kernel
theorem dX10_bentDay_9 : decode cX10_bentDay 9 = .ok (.arraylength, 1) := by decide +kernel
theorem dX10_bentDay_10 : decode cX10_bentDay 10 = .ok (.if_icmp .ge 12, 3) := by decide +kernel
theorem dX10_bentDay_13 : decode cX10_bentDay 13 = .ok (.aload_n 0, 1) := by decide +kernel
theorem dX10_bentDay_14 : decode cX10_bentDay 14 = .ok (.getfield 20, 3) := by decide +kernel
theorem dX10_bentDay_17 : decode cX10_bentDay 17 = .ok (.iload_n 1, 1) := by decide +kernel
theorem dX10_bentDay_18 : decode cX10_bentDay 18 = .ok (.iaload, 1) := by decide +kernel
theorem dX10_bentDay_19 : decode cX10_bentDay 19 = .ok (.goto 4, 3) := by decide +kernel
theorem dX10_bentDay_22 : decode cX10_bentDay 22 = .ok (.iconst (-1), 1) := by decide +kernel
theorem dX10_bentDay_23 : decode cX10_bentDay 23 = .ok (.ireturn, 1) := by decide +kernel
theorem dX10_costOf_0 : decode cX10_costOf 0 = .ok (.aload_n 0, 1) := by decide +kernel
theorem dX10_costOf_1 : decode cX10_costOf 1 = .ok (.getfield 24, 3) := by decide +kernel
theorem dX10_costOf_4 : decode cX10_costOf 4 = .ok (.iload_n 1, 1) := by decide +kernel
theorem dX10_costOf_5 : decode cX10_costOf 5 = .ok (.iaload, 1) := by decide +kernel
theorem dX10_costOf_6 : decode cX10_costOf 6 = .ok (.ireturn, 1) := by decide +kernel
theorem dX10_costOfAll_0 : decode cX10_costOfAll 0 = .ok (.iconst 1, 1) := by decide +kernel
theorem dX10_costOfAll_1 : decode cX10_costOfAll 1 = .ok (.istore_n 1, 1) := by decide +kernel
theorem dX10_costOfAll_2 : decode cX10_costOfAll 2 = .ok (.iconst 0, 1) := by decide +kernel
theorem dX10_costOfAll_3 : decode cX10_costOfAll 3 = .ok (.istore_n 2, 1) := by decide +kernel
theorem dX10_costOfAll_4 : decode cX10_costOfAll 4 = .ok (.iload_n 2, 1) := by decide +kernel
theorem dX10_costOfAll_5 : decode cX10_costOfAll 5 = .ok (.aload_n 0, 1) := by decide +kernel
theorem dX10_costOfAll_6 : decode cX10_costOfAll 6 = .ok (.getfield 33, 3) := by decide +kernel
theorem dX10_costOfAll_9 : decode cX10_costOfAll 9 = .ok (.invokevirtual 50, 3) := by decide +kernel
theorem dX10_costOfAll_12 : decode cX10_costOfAll 12 = .ok (.if_icmp .ge 18, 3) := by decide +kernel
theorem dX10_costOfAll_15 : decode cX10_costOfAll 15 = .ok (.iload_n 1, 1) := by decide +kernel
theorem dX10_costOfAll_16 : decode cX10_costOfAll 16 = .ok (.aload_n 0, 1) := by decide +kernel
theorem dX10_costOfAll_17 : decode cX10_costOfAll 17 = .ok (.getfield 24, 3) := by decide +kernel
theorem dX10_costOfAll_20 : decode cX10_costOfAll 20 = .ok (.iload_n 2, 1) := by decide +kernel
theorem dX10_costOfAll_21 : decode cX10_costOfAll 21 = .ok (.iaload, 1) := by decide +kernel
theorem dX10_costOfAll_22 : decode cX10_costOfAll 22 = .ok (.iadd, 1) := by decide +kernel
theorem dX10_costOfAll_23 : decode cX10_costOfAll 23 = .ok (.istore_n 1, 1) := by decide +kernel
theorem dX10_costOfAll_24 : decode cX10_costOfAll 24 = .ok (.iinc 2 1, 3) := by decide +kernel
theorem dX10_costOfAll_27 : decode cX10_costOfAll 27 = .ok (.goto (-23), 3) := by decide +kernel
theorem dX10_costOfAll_30 : decode cX10_costOfAll 30 = .ok (.iload_n 1, 1) := by decide +kernel
theorem dX10_costOfAll_31 : decode cX10_costOfAll 31 = .ok (.ireturn, 1) := by decide +kernel
theorem dX10_countClashes_0 : decode cX10_countClashes 0 = .ok (.iconst 0, 1) := by decide +kernel
theorem dX10_countClashes_1 : decode cX10_countClashes 1 = .ok (.istore_n 1, 1) := by decide +kernel
theorem dX10_countClashes_2 : decode cX10_countClashes 2 = .ok (.iconst 0, 1) := by decide +kernel
theorem dX10_countClashes_3 : decode cX10_countClashes 3 = .ok (.istore_n 2, 1) := by decide +kernel
theorem dX10_countClashes_4 : decode cX10_countClashes 4 = .ok (.iload_n 2, 1) := by decide +kernel
theorem dX10_countClashes_5 : decode cX10_countClashes 5 = .ok (.aload_n 0, 1) := by decide +kernel
theorem dX10_countClashes_6 : decode cX10_countClashes 6 = .ok (.getfield 33, 3) := by decide +kernel
theorem dX10_countClashes_9 : decode cX10_countClashes 9 = .ok (.invokevirtual 50, 3) := by decide +kernel
theorem dX10_countClashes_12 : decode cX10_countClashes 12 = .ok (.if_icmp .ge 58, 3) := by decide +kernel
theorem dX10_countClashes_15 : decode cX10_countClashes 15 = .ok (.iload_n 2, 1) := by decide +kernel
theorem dX10_countClashes_16 : decode cX10_countClashes 16 = .ok (.iconst 1, 1) := by decide +kernel
theorem dX10_countClashes_17 : decode cX10_countClashes 17 = .ok (.iadd, 1) := by decide +kernel
theorem dX10_countClashes_18 : decode cX10_countClashes 18 = .ok (.istore_n 3, 1) := by decide +kernel
theorem dX10_countClashes_19 : decode cX10_countClashes 19 = .ok (.iload_n 3, 1) := by decide +kernel
theorem dX10_countClashes_20 : decode cX10_countClashes 20 = .ok (.aload_n 0, 1) := by decide +kernel
theorem dX10_countClashes_21 : decode cX10_countClashes 21 = .ok (.getfield 33, 3) := by decide +kernel
theorem dX10_countClashes_24 : decode cX10_countClashes 24 = .ok (.invokevirtual 50, 3) := by decide +kernel
theorem dX10_countClashes_27 : decode cX10_countClashes 27 = .ok (.if_icmp .ge 37, 3) := by decide +kernel
theorem dX10_countClashes_30 : decode cX10_countClashes 30 = .ok (.aload_n 0, 1) := by decide +kernel
theorem dX10_countClashes_31 : decode cX10_countClashes 31 = .ok (.getfield 20, 3) := by decide +kernel
theorem dX10_countClashes_34 : decode cX10_countClashes 34 = .ok (.iload_n 2, 1) := by decide +kernel
theorem dX10_countClashes_35 : decode cX10_countClashes 35 = .ok (.iaload, 1) := by decide +kernel
theorem dX10_countClashes_36 : decode cX10_countClashes 36 = .ok (.iconst (-1), 1) := by decide +kernel
theorem dX10_countClashes_37 : decode cX10_countClashes 37 = .ok (.if_icmp .eq 21, 3) := by decide +kernel
theorem dX10_countClashes_40 : decode cX10_countClashes 40 = .ok (.aload_n 0, 1) := by decide +kernel
theorem dX10_countClashes_41 : decode cX10_countClashes 41 = .ok (.getfield 20, 3) := by decide +kernel
theorem dX10_countClashes_44 : decode cX10_countClashes 44 = .ok (.iload_n 2, 1) := by decide +kernel
theorem dX10_countClashes_45 : decode cX10_countClashes 45 = .ok (.iaload, 1) := by decide +kernel
theorem dX10_countClashes_46 : decode cX10_countClashes 46 = .ok (.aload_n 0, 1) := by decide +kernel
theorem dX10_countClashes_47 : decode cX10_countClashes 47 = .ok (.getfield 20, 3) := by decide +kernel
theorem dX10_countClashes_50 : decode cX10_countClashes 50 = .ok (.iload_n 3, 1) := by decide +kernel
theorem dX10_countClashes_51 : decode cX10_countClashes 51 = .ok (.iaload, 1) := by decide +kernel
theorem dX10_countClashes_52 : decode cX10_countClashes 52 = .ok (.if_icmp .ne 6, 3) := by decide +kernel
theorem dX10_countClashes_55 : decode cX10_countClashes 55 = .ok (.iinc 1 1, 3) := by decide +kernel
theorem dX10_countClashes_58 : decode cX10_countClashes 58 = .ok (.iinc 3 1, 3) := by decide +kernel
theorem dX10_countClashes_61 : decode cX10_countClashes 61 = .ok (.goto (-42), 3) := by decide +kernel
theorem dX10_countClashes_64 : decode cX10_countClashes 64 = .ok (.iinc 2 1, 3) := by decide +kernel
theorem dX10_countClashes_67 : decode cX10_countClashes 67 = .ok (.goto (-63), 3) := by decide +kernel
theorem dX10_countClashes_70 : decode cX10_countClashes 70 = .ok (.iload_n 1, 1) := by decide +kernel
theorem dX10_countClashes_71 : decode cX10_countClashes 71 = .ok (.ireturn, 1) := by decide +kernel
theorem dX10_isNextTo_0 : decode cX10_isNextTo 0 = .ok (.aload_n 0, 1) := by decide +kernel
theorem dX10_isNextTo_1 : decode cX10_isNextTo 1 = .ok (.iload_n 2, 1) := by decide +kernel
theorem dX10_isNextTo_2 : decode cX10_isNextTo 2 = .ok (.invokevirtual 113, 3) := by decide +kernel
theorem dX10_isNextTo_5 : decode cX10_isNextTo 5 = .ok (.istore_n 3, 1) := by decide +kernel
theorem dX10_isNextTo_6 : decode cX10_isNextTo 6 = .ok (.aload_n 1, 1) := by decide +kernel
theorem dX10_isNextTo_7 : decode cX10_isNextTo 7 = .ok (.iload_n 2, 1) := by decide +kernel
theorem dX10_isNextTo_8 : decode cX10_isNextTo 8 = .ok (.invokevirtual 113, 3) := by decide +kernel
theorem dX10_isNextTo_11 : decode cX10_isNextTo 11 = .ok (.istore 4, 2) := by decide +kernel
theorem dX10_isNextTo_13 : decode cX10_isNextTo 13 = .ok (.iload_n 3, 1) := by decide +kernel
theorem dX10_isNextTo_14 : decode cX10_isNextTo 14 = .ok (.iconst (-1), 1) := by decide +kernel
theorem dX10_isNextTo_15 : decode cX10_isNextTo 15 = .ok (.if_icmp .eq 24, 3) := by decide +kernel
theorem dX10_isNextTo_18 : decode cX10_isNextTo 18 = .ok (.iload 4, 2) := by decide +kernel
theorem dX10_isNextTo_20 : decode cX10_isNextTo 20 = .ok (.iconst (-1), 1) := by decide +kernel
theorem dX10_isNextTo_21 : decode cX10_isNextTo 21 = .ok (.if_icmp .eq 18, 3) := by decide +kernel
theorem dX10_isNextTo_24 : decode cX10_isNextTo 24 = .ok (.iload_n 3, 1) := by decide +kernel
theorem dX10_isNextTo_25 : decode cX10_isNextTo 25 = .ok (.iload 4, 2) := by decide +kernel
theorem dX10_isNextTo_27 : decode cX10_isNextTo 27 = .ok (.isub, 1) := by decide +kernel
theorem dX10_isNextTo_28 : decode cX10_isNextTo 28 = .ok (.invokestatic 154, 3) := by decide +kernel
theorem dX10_isNextTo_31 : decode cX10_isNextTo 31 = .ok (.iconst 1, 1) := by decide +kernel
theorem dX10_isNextTo_32 : decode cX10_isNextTo 32 = .ok (.if_icmp .ne 7, 3) := by decide +kernel
theorem dX10_isNextTo_35 : decode cX10_isNextTo 35 = .ok (.iconst 1, 1) := by decide +kernel
theorem dX10_isNextTo_36 : decode cX10_isNextTo 36 = .ok (.goto 4, 3) := by decide +kernel
theorem dX10_isNextTo_39 : decode cX10_isNextTo 39 = .ok (.iconst 0, 1) := by decide +kernel
theorem dX10_isNextTo_40 : decode cX10_isNextTo 40 = .ok (.ireturn, 1) := by decide +kernel
theorem dX10_placeAll_0 : decode cX10_placeAll 0 = .ok (.iconst 0, 1) := by decide +kernel
theorem dX10_placeAll_1 : decode cX10_placeAll 1 = .ok (.istore_n 1, 1) := by decide +kernel
theorem dX10_placeAll_2 : decode cX10_placeAll 2 = .ok (.iload_n 1, 1) := by decide +kernel
theorem dX10_placeAll_3 : decode cX10_placeAll 3 = .ok (.sipush 366, 3) := by decide +kernel
theorem dX10_placeAll_6 : decode cX10_placeAll 6 = .ok (.if_icmp .ge 16, 3) := by decide +kernel
theorem dX10_placeAll_9 : decode cX10_placeAll 9 = .ok (.aload_n 0, 1) := by decide +kernel
theorem dX10_placeAll_10 : decode cX10_placeAll 10 = .ok (.getfield 30, 3) := by decide +kernel
theorem dX10_placeAll_13 : decode cX10_placeAll 13 = .ok (.iload_n 1, 1) := by decide +kernel
theorem dX10_placeAll_14 : decode cX10_placeAll 14 = .ok (.iconst (-1), 1) := by decide +kernel
theorem dX10_placeAll_15 : decode cX10_placeAll 15 = .ok (.iastore, 1) := by decide +kernel
theorem dX10_placeAll_16 : decode cX10_placeAll 16 = .ok (.iinc 1 1, 3) := by decide +kernel
theorem dX10_placeAll_19 : decode cX10_placeAll 19 = .ok (.goto (-17), 3) := by decide +kernel
theorem dX10_placeAll_22 : decode cX10_placeAll 22 = .ok (.bipush 9, 2) := by decide +kernel
theorem dX10_placeAll_24 : decode cX10_placeAll 24 = .ok (.istore_n 1, 1) := by decide +kernel
theorem dX10_placeAll_25 : decode cX10_placeAll 25 = .ok (.iload_n 1, 1) := by decide +kernel
theorem dX10_placeAll_26 : decode cX10_placeAll 26 = .ok (.ifCond .lt 45, 3) := by decide +kernel
theorem dX10_placeAll_29 : decode cX10_placeAll 29 = .ok (.iconst 0, 1) := by decide +kernel
theorem dX10_placeAll_30 : decode cX10_placeAll 30 = .ok (.istore_n 2, 1) := by decide +kernel
theorem dX10_placeAll_31 : decode cX10_placeAll 31 = .ok (.iload_n 2, 1) := by decide +kernel
theorem dX10_placeAll_32 : decode cX10_placeAll 32 = .ok (.aload_n 0, 1) := by decide +kernel
theorem dX10_placeAll_33 : decode cX10_placeAll 33 = .ok (.getfield 33, 3) := by decide +kernel
theorem dX10_placeAll_36 : decode cX10_placeAll 36 = .ok (.invokevirtual 50, 3) := by decide +kernel
theorem dX10_placeAll_39 : decode cX10_placeAll 39 = .ok (.if_icmp .ge 26, 3) := by decide +kernel
theorem dX10_placeAll_42 : decode cX10_placeAll 42 = .ok (.aload_n 0, 1) := by decide +kernel
theorem dX10_placeAll_43 : decode cX10_placeAll 43 = .ok (.getfield 33, 3) := by decide +kernel
theorem dX10_placeAll_46 : decode cX10_placeAll 46 = .ok (.iload_n 2, 1) := by decide +kernel
theorem dX10_placeAll_47 : decode cX10_placeAll 47 = .ok (.invokevirtual 159, 3) := by decide +kernel
theorem dX10_placeAll_50 : decode cX10_placeAll 50 = .ok (.iload_n 1, 1) := by decide +kernel
theorem dX10_placeAll_51 : decode cX10_placeAll 51 = .ok (.if_icmp .ne 8, 3) := by decide +kernel
theorem dX10_placeAll_54 : decode cX10_placeAll 54 = .ok (.aload_n 0, 1) := by decide +kernel
theorem dX10_placeAll_55 : decode cX10_placeAll 55 = .ok (.iload_n 2, 1) := by decide +kernel
theorem dX10_placeAll_56 : decode cX10_placeAll 56 = .ok (.invokevirtual 162, 3) := by decide +kernel
theorem dX10_placeAll_59 : decode cX10_placeAll 59 = .ok (.iinc 2 1, 3) := by decide +kernel
theorem dX10_placeAll_62 : decode cX10_placeAll 62 = .ok (.goto (-31), 3) := by decide +kernel
theorem dX10_placeAll_65 : decode cX10_placeAll 65 = .ok (.iinc 1 (-1), 3) := by decide +kernel
theorem dX10_placeAll_68 : decode cX10_placeAll 68 = .ok (.goto (-43), 3) := by decide +kernel
theorem dX10_placeAll_71 : decode cX10_placeAll 71 = .ok (.return_, 1) := by decide +kernel
theorem dX10_place_0 : decode cX10_place 0 = .ok (.aload_n 0, 1) := by decide +kernel
theorem dX10_place_1 : decode cX10_place 1 = .ok (.getfield 20, 3) := by decide +kernel
theorem dX10_place_4 : decode cX10_place 4 = .ok (.iload_n 1, 1) := by decide +kernel
theorem dX10_place_5 : decode cX10_place 5 = .ok (.iaload, 1) := by decide +kernel
theorem dX10_place_6 : decode cX10_place 6 = .ok (.istore_n 2, 1) := by decide +kernel
theorem dX10_place_7 : decode cX10_place 7 = .ok (.aload_n 0, 1) := by decide +kernel
theorem dX10_place_8 : decode cX10_place 8 = .ok (.getfield 27, 3) := by decide +kernel
theorem dX10_place_11 : decode cX10_place 11 = .ok (.iload_n 1, 1) := by decide +kernel
theorem dX10_place_12 : decode cX10_place 12 = .ok (.iconst (-1), 1) := by decide +kernel
theorem dX10_place_13 : decode cX10_place 13 = .ok (.iastore, 1) := by decide +kernel
theorem dX10_place_14 : decode cX10_place 14 = .ok (.iload_n 2, 1) := by decide +kernel
theorem dX10_place_15 : decode cX10_place 15 = .ok (.iconst (-1), 1) := by decide +kernel
theorem dX10_place_16 : decode cX10_place 16 = .ok (.if_icmp .ne 4, 3) := by decide +kernel
theorem dX10_place_19 : decode cX10_place 19 = .ok (.return_, 1) := by decide +kernel
theorem dX10_place_20 : decode cX10_place 20 = .ok (.aload_n 0, 1) := by decide +kernel
theorem dX10_place_21 : decode cX10_place 21 = .ok (.getfield 33, 3) := by decide +kernel
theorem dX10_place_24 : decode cX10_place 24 = .ok (.iload_n 1, 1) := by decide +kernel
theorem dX10_place_25 : decode cX10_place 25 = .ok (.invokevirtual 165, 3) := by decide +kernel
theorem dX10_place_28 : decode cX10_place 28 = .ok (.ifCond .eq 10, 3) := by decide +kernel
theorem dX10_place_31 : decode cX10_place 31 = .ok (.iload_n 2, 1) := by decide +kernel
theorem dX10_place_32 : decode cX10_place 32 = .ok (.bipush 20, 2) := by decide +kernel
theorem dX10_place_34 : decode cX10_place 34 = .ok (.iadd, 1) := by decide +kernel
theorem dX10_place_35 : decode cX10_place 35 = .ok (.goto 4, 3) := by decide +kernel
theorem dX10_place_38 : decode cX10_place 38 = .ok (.iload_n 2, 1) := by decide +kernel
theorem dX10_place_39 : decode cX10_place 39 = .ok (.istore_n 3, 1) := by decide +kernel
theorem dX10_place_40 : decode cX10_place 40 = .ok (.iload_n 2, 1) := by decide +kernel
theorem dX10_place_41 : decode cX10_place 41 = .ok (.istore 4, 2) := by decide +kernel
theorem dX10_place_43 : decode cX10_place 43 = .ok (.iload 4, 2) := by decide +kernel
theorem dX10_place_45 : decode cX10_place 45 = .ok (.iload_n 3, 1) := by decide +kernel
theorem dX10_place_46 : decode cX10_place 46 = .ok (.if_icmp .gt 46, 3) := by decide +kernel
theorem dX10_place_49 : decode cX10_place 49 = .ok (.iload 4, 2) := by decide +kernel
theorem dX10_place_51 : decode cX10_place 51 = .ok (.aload_n 0, 1) := by decide +kernel
theorem dX10_place_52 : decode cX10_place 52 = .ok (.getfield 47, 3) := by decide +kernel
theorem dX10_place_55 : decode cX10_place 55 = .ok (.if_icmp .ge 37, 3) := by decide +kernel
theorem dX10_place_58 : decode cX10_place 58 = .ok (.aload_n 0, 1) := by decide +kernel
theorem dX10_place_59 : decode cX10_place 59 = .ok (.getfield 30, 3) := by decide +kernel
theorem dX10_place_62 : decode cX10_place 62 = .ok (.iload 4, 2) := by decide +kernel
theorem dX10_place_64 : decode cX10_place 64 = .ok (.iaload, 1) := by decide +kernel
theorem dX10_place_65 : decode cX10_place 65 = .ok (.iconst (-1), 1) := by decide +kernel
theorem dX10_place_66 : decode cX10_place 66 = .ok (.if_icmp .ne 20, 3) := by decide +kernel
theorem dX10_place_69 : decode cX10_place 69 = .ok (.aload_n 0, 1) := by decide +kernel
theorem dX10_place_70 : decode cX10_place 70 = .ok (.getfield 30, 3) := by decide +kernel
theorem dX10_place_73 : decode cX10_place 73 = .ok (.iload 4, 2) := by decide +kernel
theorem dX10_place_75 : decode cX10_place 75 = .ok (.iload_n 1, 1) := by decide +kernel
theorem dX10_place_76 : decode cX10_place 76 = .ok (.iastore, 1) := by decide +kernel
theorem dX10_place_77 : decode cX10_place 77 = .ok (.aload_n 0, 1) := by decide +kernel
theorem dX10_place_78 : decode cX10_place 78 = .ok (.getfield 27, 3) := by decide +kernel
theorem dX10_place_81 : decode cX10_place 81 = .ok (.iload_n 1, 1) := by decide +kernel
theorem dX10_place_82 : decode cX10_place 82 = .ok (.iload 4, 2) := by decide +kernel
theorem dX10_place_84 : decode cX10_place 84 = .ok (.iastore, 1) := by decide +kernel
theorem dX10_place_85 : decode cX10_place 85 = .ok (.return_, 1) := by decide +kernel
theorem dX10_place_86 : decode cX10_place 86 = .ok (.iinc 4 1, 3) := by decide +kernel
theorem dX10_place_89 : decode cX10_place 89 = .ok (.goto (-46), 3) := by decide +kernel
theorem dX10_place_92 : decode cX10_place 92 = .ok (.return_, 1) := by decide +kernel
theorem dX10_placedDay_0 : decode cX10_placedDay 0 = .ok (.iload_n 1, 1) := by decide +kernel
theorem dX10_placedDay_1 : decode cX10_placedDay 1 = .ok (.ifCond .lt 21, 3) := by decide +kernel
theorem dX10_placedDay_4 : decode cX10_placedDay 4 = .ok (.iload_n 1, 1) := by decide +kernel
theorem dX10_placedDay_5 : decode cX10_placedDay 5 = .ok (.aload_n 0, 1) := by decide +kernel
theorem dX10_placedDay_6 : decode cX10_placedDay 6 = .ok (.getfield 27, 3) := by decide +kernel
theorem dX10_placedDay_9 : decode cX10_placedDay 9 = .ok (.arraylength, 1) := by decide +kernel
theorem dX10_placedDay_10 : decode cX10_placedDay 10 = .ok (.if_icmp .ge 12, 3) := by decide +kernel
theorem dX10_placedDay_13 : decode cX10_placedDay 13 = .ok (.aload_n 0, 1) := by decide +kernel
theorem dX10_placedDay_14 : decode cX10_placedDay 14 = .ok (.getfield 27, 3) := by decide +kernel
theorem dX10_placedDay_17 : decode cX10_placedDay 17 = .ok (.iload_n 1, 1) := by decide +kernel
theorem dX10_placedDay_18 : decode cX10_placedDay 18 = .ok (.iaload, 1) := by decide +kernel
theorem dX10_placedDay_19 : decode cX10_placedDay 19 = .ok (.goto 4, 3) := by decide +kernel
theorem dX10_placedDay_22 : decode cX10_placedDay 22 = .ok (.iconst (-1), 1) := by decide +kernel
theorem dX10_placedDay_23 : decode cX10_placedDay 23 = .ok (.ireturn, 1) := by decide +kernel
theorem dX10_feastOn_0 : decode cX10_feastOn 0 = .ok (.iload_n 1, 1) := by decide +kernel
theorem dX10_feastOn_1 : decode cX10_feastOn 1 = .ok (.ifCond .lt 21, 3) := by decide +kernel
theorem dX10_feastOn_4 : decode cX10_feastOn 4 = .ok (.iload_n 1, 1) := by decide +kernel
theorem dX10_feastOn_5 : decode cX10_feastOn 5 = .ok (.aload_n 0, 1) := by decide +kernel
theorem dX10_feastOn_6 : decode cX10_feastOn 6 = .ok (.getfield 30, 3) := by decide +kernel
theorem dX10_feastOn_9 : decode cX10_feastOn 9 = .ok (.arraylength, 1) := by decide +kernel
theorem dX10_feastOn_10 : decode cX10_feastOn 10 = .ok (.if_icmp .ge 12, 3) := by decide +kernel
theorem dX10_feastOn_13 : decode cX10_feastOn 13 = .ok (.aload_n 0, 1) := by decide +kernel
theorem dX10_feastOn_14 : decode cX10_feastOn 14 = .ok (.getfield 30, 3) := by decide +kernel
theorem dX10_feastOn_17 : decode cX10_feastOn 17 = .ok (.iload_n 1, 1) := by decide +kernel
theorem dX10_feastOn_18 : decode cX10_feastOn 18 = .ok (.iaload, 1) := by decide +kernel
theorem dX10_feastOn_19 : decode cX10_feastOn 19 = .ok (.goto 4, 3) := by decide +kernel
theorem dX10_feastOn_22 : decode cX10_feastOn 22 = .ok (.iconst (-1), 1) := by decide +kernel
theorem dX10_feastOn_23 : decode cX10_feastOn 23 = .ok (.ireturn, 1) := by decide +kernel
theorem dX10_claimHolds_0 : decode cX10_claimHolds 0 = .ok (.iload_n 1, 1) := by decide +kernel
theorem dX10_claimHolds_1 : decode cX10_claimHolds 1 = .ok (.tableswitch 123 21 24 #[31, 44, 81, 108], 31) := by decide +kernel
theorem dX10_claimHolds_32 : decode cX10_claimHolds 32 = .ok (.aload_n 0, 1) := by decide +kernel
theorem dX10_claimHolds_33 : decode cX10_claimHolds 33 = .ok (.invokevirtual 168, 3) := by decide +kernel
theorem dX10_claimHolds_36 : decode cX10_claimHolds 36 = .ok (.ifCond .ne 7, 3) := by decide +kernel
theorem dX10_claimHolds_39 : decode cX10_claimHolds 39 = .ok (.iconst 1, 1) := by decide +kernel
theorem dX10_claimHolds_40 : decode cX10_claimHolds 40 = .ok (.goto 4, 3) := by decide +kernel
theorem dX10_claimHolds_43 : decode cX10_claimHolds 43 = .ok (.iconst 0, 1) := by decide +kernel
theorem dX10_claimHolds_44 : decode cX10_claimHolds 44 = .ok (.ireturn, 1) := by decide +kernel
theorem dX10_claimHolds_45 : decode cX10_claimHolds 45 = .ok (.aload_n 0, 1) := by decide +kernel
theorem dX10_claimHolds_46 : decode cX10_claimHolds 46 = .ok (.iload_n 2, 1) := by decide +kernel
theorem dX10_claimHolds_47 : decode cX10_claimHolds 47 = .ok (.sipush 10000, 3) := by decide +kernel
theorem dX10_claimHolds_50 : decode cX10_claimHolds 50 = .ok (.idiv, 1) := by decide +kernel
theorem dX10_claimHolds_51 : decode cX10_claimHolds 51 = .ok (.invokevirtual 171, 3) := by decide +kernel
theorem dX10_claimHolds_54 : decode cX10_claimHolds 54 = .ok (.istore_n 3, 1) := by decide +kernel
theorem dX10_claimHolds_55 : decode cX10_claimHolds 55 = .ok (.iload_n 3, 1) := by decide +kernel
theorem dX10_claimHolds_56 : decode cX10_claimHolds 56 = .ok (.iconst (-1), 1) := by decide +kernel
theorem dX10_claimHolds_57 : decode cX10_claimHolds 57 = .ok (.if_icmp .eq 23, 3) := by decide +kernel
theorem dX10_claimHolds_60 : decode cX10_claimHolds 60 = .ok (.aload_n 0, 1) := by decide +kernel
theorem dX10_claimHolds_61 : decode cX10_claimHolds 61 = .ok (.getfield 37, 3) := by decide +kernel
theorem dX10_claimHolds_64 : decode cX10_claimHolds 64 = .ok (.iload_n 3, 1) := by decide +kernel
theorem dX10_claimHolds_65 : decode cX10_claimHolds 65 = .ok (.invokestatic 174, 3) := by decide +kernel
theorem dX10_claimHolds_68 : decode cX10_claimHolds 68 = .ok (.iload_n 2, 1) := by decide +kernel
theorem dX10_claimHolds_69 : decode cX10_claimHolds 69 = .ok (.sipush 10000, 3) := by decide +kernel
theorem dX10_claimHolds_72 : decode cX10_claimHolds 72 = .ok (.irem, 1) := by decide +kernel
theorem dX10_claimHolds_73 : decode cX10_claimHolds 73 = .ok (.if_icmp .ne 7, 3) := by decide +kernel
theorem dX10_claimHolds_76 : decode cX10_claimHolds 76 = .ok (.iconst 1, 1) := by decide +kernel
theorem dX10_claimHolds_77 : decode cX10_claimHolds 77 = .ok (.goto 4, 3) := by decide +kernel
theorem dX10_claimHolds_80 : decode cX10_claimHolds 80 = .ok (.iconst 0, 1) := by decide +kernel
theorem dX10_claimHolds_81 : decode cX10_claimHolds 81 = .ok (.ireturn, 1) := by decide +kernel
theorem dX10_claimHolds_82 : decode cX10_claimHolds 82 = .ok (.aload_n 0, 1) := by decide +kernel
theorem dX10_claimHolds_83 : decode cX10_claimHolds 83 = .ok (.getfield 12, 3) := by decide +kernel
theorem dX10_claimHolds_86 : decode cX10_claimHolds 86 = .ok (.aload_n 0, 1) := by decide +kernel
theorem dX10_claimHolds_87 : decode cX10_claimHolds 87 = .ok (.iload_n 2, 1) := by decide +kernel
theorem dX10_claimHolds_88 : decode cX10_claimHolds 88 = .ok (.bipush 10, 2) := by decide +kernel
theorem dX10_claimHolds_90 : decode cX10_claimHolds 90 = .ok (.idiv, 1) := by decide +kernel
theorem dX10_claimHolds_91 : decode cX10_claimHolds 91 = .ok (.invokevirtual 171, 3) := by decide +kernel
theorem dX10_claimHolds_94 : decode cX10_claimHolds 94 = .ok (.invokevirtual 116, 3) := by decide +kernel
theorem dX10_claimHolds_97 : decode cX10_claimHolds 97 = .ok (.aload_n 0, 1) := by decide +kernel
theorem dX10_claimHolds_98 : decode cX10_claimHolds 98 = .ok (.getfield 12, 3) := by decide +kernel
theorem dX10_claimHolds_101 : decode cX10_claimHolds 101 = .ok (.iload_n 2, 1) := by decide +kernel
theorem dX10_claimHolds_102 : decode cX10_claimHolds 102 = .ok (.bipush 10, 2) := by decide +kernel
theorem dX10_claimHolds_104 : decode cX10_claimHolds 104 = .ok (.irem, 1) := by decide +kernel
theorem dX10_claimHolds_105 : decode cX10_claimHolds 105 = .ok (.invokevirtual 140, 3) := by decide +kernel
theorem dX10_claimHolds_108 : decode cX10_claimHolds 108 = .ok (.ireturn, 1) := by decide +kernel
theorem dX10_claimHolds_109 : decode cX10_claimHolds 109 = .ok (.aload_n 0, 1) := by decide +kernel
theorem dX10_claimHolds_110 : decode cX10_claimHolds 110 = .ok (.iload_n 2, 1) := by decide +kernel
theorem dX10_claimHolds_111 : decode cX10_claimHolds 111 = .ok (.invokevirtual 171, 3) := by decide +kernel
theorem dX10_claimHolds_114 : decode cX10_claimHolds 114 = .ok (.iconst (-1), 1) := by decide +kernel
theorem dX10_claimHolds_115 : decode cX10_claimHolds 115 = .ok (.if_icmp .ne 7, 3) := by decide +kernel
theorem dX10_claimHolds_118 : decode cX10_claimHolds 118 = .ok (.iconst 1, 1) := by decide +kernel
theorem dX10_claimHolds_119 : decode cX10_claimHolds 119 = .ok (.goto 4, 3) := by decide +kernel
theorem dX10_claimHolds_122 : decode cX10_claimHolds 122 = .ok (.iconst 0, 1) := by decide +kernel
theorem dX10_claimHolds_123 : decode cX10_claimHolds 123 = .ok (.ireturn, 1) := by decide +kernel
theorem dX10_claimHolds_124 : decode cX10_claimHolds 124 = .ok (.aload_n 0, 1) := by decide +kernel
theorem dX10_claimHolds_125 : decode cX10_claimHolds 125 = .ok (.iload_n 2, 1) := by decide +kernel
theorem dX10_claimHolds_126 : decode cX10_claimHolds 126 = .ok (.bipush 100, 2) := by decide +kernel
theorem dX10_claimHolds_128 : decode cX10_claimHolds 128 = .ok (.idiv, 1) := by decide +kernel
theorem dX10_claimHolds_129 : decode cX10_claimHolds 129 = .ok (.invokevirtual 171, 3) := by decide +kernel
theorem dX10_claimHolds_132 : decode cX10_claimHolds 132 = .ok (.istore 4, 2) := by decide +kernel
theorem dX10_claimHolds_134 : decode cX10_claimHolds 134 = .ok (.iload 4, 2) := by decide +kernel
theorem dX10_claimHolds_136 : decode cX10_claimHolds 136 = .ok (.iconst (-1), 1) := by decide +kernel
theorem dX10_claimHolds_137 : decode cX10_claimHolds 137 = .ok (.if_icmp .eq 20, 3) := by decide +kernel
theorem dX10_claimHolds_140 : decode cX10_claimHolds 140 = .ok (.iload 4, 2) := by decide +kernel
theorem dX10_claimHolds_142 : decode cX10_claimHolds 142 = .ok (.aload_n 0, 1) := by decide +kernel
theorem dX10_claimHolds_143 : decode cX10_claimHolds 143 = .ok (.iload_n 2, 1) := by decide +kernel
theorem dX10_claimHolds_144 : decode cX10_claimHolds 144 = .ok (.bipush 100, 2) := by decide +kernel
theorem dX10_claimHolds_146 : decode cX10_claimHolds 146 = .ok (.irem, 1) := by decide +kernel
theorem dX10_claimHolds_147 : decode cX10_claimHolds 147 = .ok (.invokevirtual 171, 3) := by decide +kernel
theorem dX10_claimHolds_150 : decode cX10_claimHolds 150 = .ok (.if_icmp .ge 7, 3) := by decide +kernel
theorem dX10_claimHolds_153 : decode cX10_claimHolds 153 = .ok (.iconst 1, 1) := by decide +kernel
theorem dX10_claimHolds_154 : decode cX10_claimHolds 154 = .ok (.goto 4, 3) := by decide +kernel
theorem dX10_claimHolds_157 : decode cX10_claimHolds 157 = .ok (.iconst 0, 1) := by decide +kernel
theorem dX10_claimHolds_158 : decode cX10_claimHolds 158 = .ok (.ireturn, 1) := by decide +kernel
theorem dX11_init_0 : decode cX11_init 0 = .ok (.aload_n 0, 1) := by decide +kernel
theorem dX11_init_1 : decode cX11_init 1 = .ok (.invokespecial 1, 3) := by decide +kernel
theorem dX11_init_4 : decode cX11_init 4 = .ok (.aload_n 0, 1) := by decide +kernel
theorem dX11_init_5 : decode cX11_init 5 = .ok (.new 7, 3) := by decide +kernel
theorem dX11_init_8 : decode cX11_init 8 = .ok (.dup, 1) := by decide +kernel
theorem dX11_init_9 : decode cX11_init 9 = .ok (.invokespecial 9, 3) := by decide +kernel
theorem dX11_init_12 : decode cX11_init 12 = .ok (.putfield 10, 3) := by decide +kernel
theorem dX11_init_15 : decode cX11_init 15 = .ok (.aload_n 0, 1) := by decide +kernel
theorem dX11_init_16 : decode cX11_init 16 = .ok (.new 16, 3) := by decide +kernel
theorem dX11_init_19 : decode cX11_init 19 = .ok (.dup, 1) := by decide +kernel
theorem dX11_init_20 : decode cX11_init 20 = .ok (.invokespecial 18, 3) := by decide +kernel
theorem dX11_init_23 : decode cX11_init 23 = .ok (.putfield 19, 3) := by decide +kernel
theorem dX11_init_26 : decode cX11_init 26 = .ok (.aload_n 0, 1) := by decide +kernel
theorem dX11_init_27 : decode cX11_init 27 = .ok (.new 23, 3) := by decide +kernel
theorem dX11_init_30 : decode cX11_init 30 = .ok (.dup, 1) := by decide +kernel
theorem dX11_init_31 : decode cX11_init 31 = .ok (.invokespecial 25, 3) := by decide +kernel
theorem dX11_init_34 : decode cX11_init 34 = .ok (.putfield 26, 3) := by decide +kernel
theorem dX11_init_37 : decode cX11_init 37 = .ok (.aload_n 0, 1) := by decide +kernel
theorem dX11_init_38 : decode cX11_init 38 = .ok (.new 30, 3) := by decide +kernel
theorem dX11_init_41 : decode cX11_init 41 = .ok (.dup, 1) := by decide +kernel
theorem dX11_init_42 : decode cX11_init 42 = .ok (.aload_n 0, 1) := by decide +kernel
theorem dX11_init_43 : decode cX11_init 43 = .ok (.getfield 26, 3) := by decide +kernel
theorem dX11_init_46 : decode cX11_init 46 = .ok (.invokespecial 32, 3) := by decide +kernel
theorem dX11_init_49 : decode cX11_init 49 = .ok (.putfield 35, 3) := by decide +kernel
theorem dX11_init_52 : decode cX11_init 52 = .ok (.aload_n 0, 1) := by decide +kernel
theorem dX11_init_53 : decode cX11_init 53 = .ok (.new 30, 3) := by decide +kernel
theorem dX11_init_56 : decode cX11_init 56 = .ok (.dup, 1) := by decide +kernel
theorem dX11_init_57 : decode cX11_init 57 = .ok (.aload_n 0, 1) := by decide +kernel
theorem dX11_init_58 : decode cX11_init 58 = .ok (.getfield 26, 3) := by decide +kernel
theorem dX11_init_61 : decode cX11_init 61 = .ok (.invokespecial 32, 3) := by decide +kernel
theorem dX11_init_64 : decode cX11_init 64 = .ok (.putfield 39, 3) := by decide +kernel
theorem dX11_init_67 : decode cX11_init 67 = .ok (.aload_n 0, 1) := by decide +kernel
theorem dX11_init_68 : decode cX11_init 68 = .ok (.new 42, 3) := by decide +kernel
theorem dX11_init_71 : decode cX11_init 71 = .ok (.dup, 1) := by decide +kernel
theorem dX11_init_72 : decode cX11_init 72 = .ok (.aload_n 0, 1) := by decide +kernel
theorem dX11_init_73 : decode cX11_init 73 = .ok (.getfield 26, 3) := by decide +kernel
theorem dX11_init_76 : decode cX11_init 76 = .ok (.invokespecial 44, 3) := by decide +kernel
theorem dX11_init_79 : decode cX11_init 79 = .ok (.putfield 45, 3) := by decide +kernel
theorem dX11_init_82 : decode cX11_init 82 = .ok (.aload_n 0, 1) := by decide +kernel
theorem dX11_init_83 : decode cX11_init 83 = .ok (.new 49, 3) := by decide +kernel
theorem dX11_init_86 : decode cX11_init 86 = .ok (.dup, 1) := by decide +kernel
theorem dX11_init_87 : decode cX11_init 87 = .ok (.invokespecial 51, 3) := by decide +kernel
theorem dX11_init_90 : decode cX11_init 90 = .ok (.putfield 52, 3) := by decide +kernel
theorem dX11_init_93 : decode cX11_init 93 = .ok (.aload_n 0, 1) := by decide +kernel
theorem dX11_init_94 : decode cX11_init 94 = .ok (.new 56, 3) := by decide +kernel
theorem dX11_init_97 : decode cX11_init 97 = .ok (.dup, 1) := by decide +kernel
theorem dX11_init_98 : decode cX11_init 98 = .ok (.invokespecial 58, 3) := by decide +kernel
theorem dX11_init_101 : decode cX11_init 101 = .ok (.putfield 59, 3) := by decide +kernel
theorem dX11_init_104 : decode cX11_init 104 = .ok (.aload_n 0, 1) := by decide +kernel
theorem dX11_init_105 : decode cX11_init 105 = .ok (.iconst 0, 1) := by decide +kernel
theorem dX11_init_106 : decode cX11_init 106 = .ok (.putfield 63, 3) := by decide +kernel
theorem dX11_init_109 : decode cX11_init 109 = .ok (.return_, 1) := by decide +kernel
theorem dX11_begin_0 : decode cX11_begin 0 = .ok (.iload_n 1, 1) := by decide +kernel
theorem dX11_begin_1 : decode cX11_begin 1 = .ok (.invokestatic 67, 3) := by decide +kernel
theorem dX11_begin_4 : decode cX11_begin 4 = .ok (.iload_n 1, 1) := by decide +kernel
theorem dX11_begin_5 : decode cX11_begin 5 = .ok (.invokestatic 71, 3) := by decide +kernel
theorem dX11_begin_8 : decode cX11_begin 8 = .ok (.ireturn, 1) := by decide +kernel
theorem dX11_date_0 : decode cX11_date 0 = .ok (.iload_n 1, 1) := by decide +kernel
theorem dX11_date_1 : decode cX11_date 1 = .ok (.invokestatic 67, 3) := by decide +kernel
theorem dX11_date_4 : decode cX11_date 4 = .ok (.iload_n 2, 1) := by decide +kernel
theorem dX11_date_5 : decode cX11_date 5 = .ok (.ifCond .lt 10, 3) := by decide +kernel
theorem dX11_date_8 : decode cX11_date 8 = .ok (.iload_n 2, 1) := by decide +kernel
theorem dX11_date_9 : decode cX11_date 9 = .ok (.sipush 365, 3) := by decide +kernel
theorem dX11_date_12 : decode cX11_date 12 = .ok (.if_icmp .le 13, 3) := by decide +kernel
theorem dX11_date_15 : decode cX11_date 15 = .ok (.new 77, 3) := by decide +kernel
theorem dX11_date_18 : decode cX11_date 18 = .ok (.dup, 1) := by decide +kernel
theorem dX11_date_19 : decode cX11_date 19 = .ok (.ldc 79, 2) := by decide +kernel
theorem dX11_date_21 : decode cX11_date 21 = .ok (.invokespecial 81, 3) := by decide +kernel
theorem dX11_date_24 : decode cX11_date 24 = .ok (.athrow, 1) := by decide +kernel
theorem dX11_date_25 : decode cX11_date 25 = .ok (.iload_n 1, 1) := by decide +kernel
theorem dX11_date_26 : decode cX11_date 26 = .ok (.iload_n 2, 1) := by decide +kernel
theorem dX11_date_27 : decode cX11_date 27 = .ok (.invokestatic 84, 3) := by decide +kernel
theorem dX11_date_30 : decode cX11_date 30 = .ok (.ireturn, 1) := by decide +kernel
theorem dX11_age_0 : decode cX11_age 0 = .ok (.iload_n 1, 1) := by decide +kernel
theorem dX11_age_1 : decode cX11_age 1 = .ok (.ifCond .lt 9, 3) := by decide +kernel
theorem dX11_age_4 : decode cX11_age 4 = .ok (.iload_n 1, 1) := by decide +kernel
theorem dX11_age_5 : decode cX11_age 5 = .ok (.ldc 88, 2) := by decide +kernel
theorem dX11_age_7 : decode cX11_age 7 = .ok (.if_icmp .le 13, 3) := by decide +kernel
theorem dX11_age_10 : decode cX11_age 10 = .ok (.new 77, 3) := by decide +kernel
theorem dX11_age_13 : decode cX11_age 13 = .ok (.dup, 1) := by decide +kernel
theorem dX11_age_14 : decode cX11_age 14 = .ok (.ldc 89, 2) := by decide +kernel
theorem dX11_age_16 : decode cX11_age 16 = .ok (.invokespecial 81, 3) := by decide +kernel
theorem dX11_age_19 : decode cX11_age 19 = .ok (.athrow, 1) := by decide +kernel
theorem dX11_age_20 : decode cX11_age 20 = .ok (.iload_n 2, 1) := by decide +kernel
theorem dX11_age_21 : decode cX11_age 21 = .ok (.invokestatic 91, 3) := by decide +kernel
theorem dX11_age_24 : decode cX11_age 24 = .ok (.iload_n 1, 1) := by decide +kernel
theorem dX11_age_25 : decode cX11_age 25 = .ok (.iload_n 2, 1) := by decide +kernel
theorem dX11_age_26 : decode cX11_age 26 = .ok (.invokestatic 94, 3) := by decide +kernel
theorem dX11_age_29 : decode cX11_age 29 = .ok (.ireturn, 1) := by decide +kernel
theorem dX11_table_0 : decode cX11_table 0 = .ok (.iload_n 1, 1) := by decide +kernel
theorem dX11_table_1 : decode cX11_table 1 = .ok (.invokestatic 91, 3) := by decide +kernel
theorem dX11_table_4 : decode cX11_table 4 = .ok (.aload_n 0, 1) := by decide +kernel
theorem dX11_table_5 : decode cX11_table 5 = .ok (.getfield 63, 3) := by decide +kernel
theorem dX11_table_8 : decode cX11_table 8 = .ok (.istore_n 2, 1) := by decide +kernel
theorem dX11_table_9 : decode cX11_table 9 = .ok (.aload_n 0, 1) := by decide +kernel
theorem dX11_table_10 : decode cX11_table 10 = .ok (.iload_n 1, 1) := by decide +kernel
theorem dX11_table_11 : decode cX11_table 11 = .ok (.putfield 63, 3) := by decide +kernel
theorem dX11_table_14 : decode cX11_table 14 = .ok (.iload_n 2, 1) := by decide +kernel
theorem dX11_table_15 : decode cX11_table 15 = .ok (.ireturn, 1) := by decide +kernel
theorem dX11_type_0 : decode cX11_type 0 = .ok (.iload_n 1, 1) := by decide +kernel
theorem dX11_type_1 : decode cX11_type 1 = .ok (.bipush 33, 2) := by decide +kernel
theorem dX11_type_3 : decode cX11_type 3 = .ok (.if_icmp .lt 9, 3) := by decide +kernel
theorem dX11_type_6 : decode cX11_type 6 = .ok (.iload_n 1, 1) := by decide +kernel
theorem dX11_type_7 : decode cX11_type 7 = .ok (.bipush 126, 2) := by decide +kernel
theorem dX11_type_9 : decode cX11_type 9 = .ok (.if_icmp .le 13, 3) := by decide +kernel
theorem dX11_type_12 : decode cX11_type 12 = .ok (.new 77, 3) := by decide +kernel
theorem dX11_type_15 : decode cX11_type 15 = .ok (.dup, 1) := by decide +kernel
theorem dX11_type_16 : decode cX11_type 16 = .ok (.ldc 97, 2) := by decide +kernel
theorem dX11_type_18 : decode cX11_type 18 = .ok (.invokespecial 81, 3) := by decide +kernel
theorem dX11_type_21 : decode cX11_type 21 = .ok (.athrow, 1) := by decide +kernel
theorem dX11_type_22 : decode cX11_type 22 = .ok (.aload_n 0, 1) := by decide +kernel
theorem dX11_type_23 : decode cX11_type 23 = .ok (.getfield 10, 3) := by decide +kernel
theorem dX11_type_26 : decode cX11_type 26 = .ok (.iload_n 1, 1) := by decide +kernel
theorem dX11_type_27 : decode cX11_type 27 = .ok (.invokevirtual 99, 3) := by decide +kernel
theorem dX11_type_30 : decode cX11_type 30 = .ok (.ifCond .ne 13, 3) := by decide +kernel
theorem dX11_type_33 : decode cX11_type 33 = .ok (.new 103, 3) := by decide +kernel
theorem dX11_type_36 : decode cX11_type 36 = .ok (.dup, 1) := by decide +kernel
theorem dX11_type_37 : decode cX11_type 37 = .ok (.ldc 105, 2) := by decide +kernel
theorem dX11_type_39 : decode cX11_type 39 = .ok (.invokespecial 107, 3) := by decide +kernel
theorem dX11_type_42 : decode cX11_type 42 = .ok (.athrow, 1) := by decide +kernel
theorem dX11_type_43 : decode cX11_type 43 = .ok (.aload_n 0, 1) := by decide +kernel
theorem dX11_type_44 : decode cX11_type 44 = .ok (.getfield 10, 3) := by decide +kernel
theorem dX11_type_47 : decode cX11_type 47 = .ok (.invokevirtual 108, 3) := by decide +kernel
theorem dX11_type_50 : decode cX11_type 50 = .ok (.ireturn, 1) := by decide +kernel
theorem dX11_wipe_0 : decode cX11_wipe 0 = .ok (.aload_n 0, 1) := by decide +kernel
theorem dX11_wipe_1 : decode cX11_wipe 1 = .ok (.getfield 10, 3) := by decide +kernel
theorem dX11_wipe_4 : decode cX11_wipe 4 = .ok (.invokevirtual 108, 3) := by decide +kernel
theorem dX11_wipe_7 : decode cX11_wipe 7 = .ok (.istore_n 1, 1) := by decide +kernel
theorem dX11_wipe_8 : decode cX11_wipe 8 = .ok (.aload_n 0, 1) := by decide +kernel
theorem dX11_wipe_9 : decode cX11_wipe 9 = .ok (.getfield 10, 3) := by decide +kernel
theorem dX11_wipe_12 : decode cX11_wipe 12 = .ok (.invokevirtual 112, 3) := by decide +kernel
theorem dX11_wipe_15 : decode cX11_wipe 15 = .ok (.iload_n 1, 1) := by decide +kernel
theorem dX11_wipe_16 : decode cX11_wipe 16 = .ok (.ireturn, 1) := by decide +kernel
theorem dX11_fault_0 : decode cX11_fault 0 = .ok (.aload_n 0, 1) := by decide +kernel
theorem dX11_fault_1 : decode cX11_fault 1 = .ok (.getfield 19, 3) := by decide +kernel
theorem dX11_fault_4 : decode cX11_fault 4 = .ok (.aload_n 0, 1) := by decide +kernel
theorem dX11_fault_5 : decode cX11_fault 5 = .ok (.getfield 10, 3) := by decide +kernel
theorem dX11_fault_8 : decode cX11_fault 8 = .ok (.invokevirtual 115, 3) := by decide +kernel
theorem dX11_fault_11 : decode cX11_fault 11 = .ok (.ireturn, 1) := by decide +kernel
theorem dX11_questionFault_0 : decode cX11_questionFault 0 = .ok (.aload_n 0, 1) := by decide +kernel
theorem dX11_questionFault_1 : decode cX11_questionFault 1 = .ok (.getfield 19, 3) := by decide +kernel
theorem dX11_questionFault_4 : decode cX11_questionFault 4 = .ok (.aload_n 0, 1) := by decide +kernel
theorem dX11_questionFault_5 : decode cX11_questionFault 5 = .ok (.getfield 10, 3) := by decide +kernel
theorem dX11_questionFault_8 : decode cX11_questionFault 8 = .ok (.invokevirtual 119, 3) := by decide +kernel
theorem dX11_questionFault_11 : decode cX11_questionFault 11 = .ok (.ireturn, 1) := by decide +kernel
theorem dX11_feast_0 : decode cX11_feast 0 = .ok (.iload_n 1, 1) := by decide +kernel
theorem dX11_feast_1 : decode cX11_feast 1 = .ok (.invokestatic 122, 3) := by decide +kernel
theorem dX11_feast_4 : decode cX11_feast 4 = .ok (.aload_n 0, 1) := by decide +kernel
theorem dX11_feast_5 : decode cX11_feast 5 = .ok (.getfield 19, 3) := by decide +kernel
theorem dX11_feast_8 : decode cX11_feast 8 = .ok (.aload_n 0, 1) := by decide +kernel
theorem dX11_feast_9 : decode cX11_feast 9 = .ok (.getfield 10, 3) := by decide +kernel
theorem dX11_feast_12 : decode cX11_feast 12 = .ok (.invokevirtual 115, 3) := by decide +kernel
theorem dX11_feast_15 : decode cX11_feast 15 = .ok (.iconst (-1), 1) := by decide +kernel
theorem dX11_feast_16 : decode cX11_feast 16 = .ok (.if_icmp .eq 13, 3) := by decide +kernel
theorem dX11_feast_19 : decode cX11_feast 19 = .ok (.new 77, 3) := by decide +kernel
theorem dX11_feast_22 : decode cX11_feast 22 = .ok (.dup, 1) := by decide +kernel
theorem dX11_feast_23 : decode cX11_feast 23 = .ok (.ldc 125, 2) := by decide +kernel
theorem dX11_feast_25 : decode cX11_feast 25 = .ok (.invokespecial 81, 3) := by decide +kernel
theorem dX11_feast_28 : decode cX11_feast 28 = .ok (.athrow, 1) := by decide +kernel
theorem dX11_feast_29 : decode cX11_feast 29 = .ok (.aload_n 0, 1) := by decide +kernel
theorem dX11_feast_30 : decode cX11_feast 30 = .ok (.getfield 26, 3) := by decide +kernel
theorem dX11_feast_33 : decode cX11_feast 33 = .ok (.invokevirtual 127, 3) := by decide +kernel
theorem dX11_feast_36 : decode cX11_feast 36 = .ok (.ifCond .eq 13, 3) := by decide +kernel
theorem dX11_feast_39 : decode cX11_feast 39 = .ok (.new 103, 3) := by decide +kernel
theorem dX11_feast_42 : decode cX11_feast 42 = .ok (.dup, 1) := by decide +kernel
theorem dX11_feast_43 : decode cX11_feast 43 = .ok (.ldc 131, 2) := by decide +kernel
theorem dX11_feast_45 : decode cX11_feast 45 = .ok (.invokespecial 107, 3) := by decide +kernel
theorem dX11_feast_48 : decode cX11_feast 48 = .ok (.athrow, 1) := by decide +kernel
theorem dX11_feast_49 : decode cX11_feast 49 = .ok (.aload_n 0, 1) := by decide +kernel
theorem dX11_feast_50 : decode cX11_feast 50 = .ok (.invokevirtual 133, 3) := by decide +kernel
theorem dX11_feast_53 : decode cX11_feast 53 = .ok (.aload_n 0, 1) := by decide +kernel
theorem dX11_feast_54 : decode cX11_feast 54 = .ok (.getfield 26, 3) := by decide +kernel
theorem dX11_feast_57 : decode cX11_feast 57 = .ok (.aload_n 0, 1) := by decide +kernel
theorem dX11_feast_58 : decode cX11_feast 58 = .ok (.getfield 10, 3) := by decide +kernel
theorem dX11_feast_61 : decode cX11_feast 61 = .ok (.aload_n 0, 1) := by decide +kernel
theorem dX11_feast_62 : decode cX11_feast 62 = .ok (.getfield 19, 3) := by decide +kernel
theorem dX11_feast_65 : decode cX11_feast 65 = .ok (.invokevirtual 136, 3) := by decide +kernel
theorem dX11_feast_68 : decode cX11_feast 68 = .ok (.invokevirtual 140, 3) := by decide +kernel
theorem dX11_feast_71 : decode cX11_feast 71 = .ok (.istore_n 3, 1) := by decide +kernel
theorem dX11_feast_72 : decode cX11_feast 72 = .ok (.aload_n 0, 1) := by decide +kernel
theorem dX11_feast_73 : decode cX11_feast 73 = .ok (.getfield 26, 3) := by decide +kernel
theorem dX11_feast_76 : decode cX11_feast 76 = .ok (.iload_n 3, 1) := by decide +kernel
theorem dX11_feast_77 : decode cX11_feast 77 = .ok (.iload_n 1, 1) := by decide +kernel
theorem dX11_feast_78 : decode cX11_feast 78 = .ok (.iload_n 2, 1) := by decide +kernel
theorem dX11_feast_79 : decode cX11_feast 79 = .ok (.invokevirtual 144, 3) := by decide +kernel
theorem dX11_feast_82 : decode cX11_feast 82 = .ok (.aload_n 0, 1) := by decide +kernel
theorem dX11_feast_83 : decode cX11_feast 83 = .ok (.getfield 10, 3) := by decide +kernel
theorem dX11_feast_86 : decode cX11_feast 86 = .ok (.invokevirtual 112, 3) := by decide +kernel
theorem dX11_feast_89 : decode cX11_feast 89 = .ok (.iload_n 3, 1) := by decide +kernel
theorem dX11_feast_90 : decode cX11_feast 90 = .ok (.ireturn, 1) := by decide +kernel
theorem dX11_rank_0 : decode cX11_rank 0 = .ok (.aload_n 0, 1) := by decide +kernel
theorem dX11_rank_1 : decode cX11_rank 1 = .ok (.iload_n 1, 1) := by decide +kernel
theorem dX11_rank_2 : decode cX11_rank 2 = .ok (.invokevirtual 148, 3) := by decide +kernel
theorem dX11_rank_5 : decode cX11_rank 5 = .ok (.iload_n 2, 1) := by decide +kernel
theorem dX11_rank_6 : decode cX11_rank 6 = .ok (.invokestatic 122, 3) := by decide +kernel
theorem dX11_rank_9 : decode cX11_rank 9 = .ok (.aload_n 0, 1) := by decide +kernel
theorem dX11_rank_10 : decode cX11_rank 10 = .ok (.getfield 26, 3) := by decide +kernel
theorem dX11_rank_13 : decode cX11_rank 13 = .ok (.iload_n 1, 1) := by decide +kernel
theorem dX11_rank_14 : decode cX11_rank 14 = .ok (.invokevirtual 165, 3) := by decide +kernel
theorem dX11_rank_17 : decode cX11_rank 17 = .ok (.istore 4, 2) := by decide +kernel
theorem dX11_rank_19 : decode cX11_rank 19 = .ok (.aload_n 0, 1) := by decide +kernel
theorem dX11_rank_20 : decode cX11_rank 20 = .ok (.getfield 26, 3) := by decide +kernel
theorem dX11_rank_23 : decode cX11_rank 23 = .ok (.iload_n 1, 1) := by decide +kernel
theorem dX11_rank_24 : decode cX11_rank 24 = .ok (.iload_n 2, 1) := by decide +kernel
theorem dX11_rank_25 : decode cX11_rank 25 = .ok (.iload_n 3, 1) := by decide +kernel
theorem dX11_rank_26 : decode cX11_rank 26 = .ok (.invokevirtual 144, 3) := by decide +kernel
theorem dX11_rank_29 : decode cX11_rank 29 = .ok (.iload 4, 2) := by decide +kernel
theorem dX11_rank_31 : decode cX11_rank 31 = .ok (.ireturn, 1) := by decide +kernel
theorem dX11_dispense_0 : decode cX11_dispense 0 = .ok (.aload_n 0, 1) := by decide +kernel
theorem dX11_dispense_1 : decode cX11_dispense 1 = .ok (.iload_n 1, 1) := by decide +kernel
theorem dX11_dispense_2 : decode cX11_dispense 2 = .ok (.invokevirtual 148, 3) := by decide +kernel
theorem dX11_dispense_5 : decode cX11_dispense 5 = .ok (.iload_n 2, 1) := by decide +kernel
theorem dX11_dispense_6 : decode cX11_dispense 6 = .ok (.invokestatic 67, 3) := by decide +kernel
theorem dX11_dispense_9 : decode cX11_dispense 9 = .ok (.iload_n 3, 1) := by decide +kernel
theorem dX11_dispense_10 : decode cX11_dispense 10 = .ok (.bipush 99, 2) := by decide +kernel
theorem dX11_dispense_12 : decode cX11_dispense 12 = .ok (.if_icmp .eq 25, 3) := by decide +kernel
theorem dX11_dispense_15 : decode cX11_dispense 15 = .ok (.iload_n 3, 1) := by decide +kernel
theorem dX11_dispense_16 : decode cX11_dispense 16 = .ok (.bipush (-30), 2) := by decide +kernel
theorem dX11_dispense_18 : decode cX11_dispense 18 = .ok (.if_icmp .lt 9, 3) := by decide +kernel
theorem dX11_dispense_21 : decode cX11_dispense 21 = .ok (.iload_n 3, 1) := by decide +kernel
theorem dX11_dispense_22 : decode cX11_dispense 22 = .ok (.bipush 30, 2) := by decide +kernel
theorem dX11_dispense_24 : decode cX11_dispense 24 = .ok (.if_icmp .le 13, 3) := by decide +kernel
theorem dX11_dispense_27 : decode cX11_dispense 27 = .ok (.new 77, 3) := by decide +kernel
theorem dX11_dispense_30 : decode cX11_dispense 30 = .ok (.dup, 1) := by decide +kernel
theorem dX11_dispense_31 : decode cX11_dispense 31 = .ok (.ldc 168, 2) := by decide +kernel
theorem dX11_dispense_33 : decode cX11_dispense 33 = .ok (.invokespecial 81, 3) := by decide +kernel
theorem dX11_dispense_36 : decode cX11_dispense 36 = .ok (.athrow, 1) := by decide +kernel
theorem dX11_dispense_37 : decode cX11_dispense 37 = .ok (.aload_n 0, 1) := by decide +kernel
theorem dX11_dispense_38 : decode cX11_dispense 38 = .ok (.getfield 26, 3) := by decide +kernel
theorem dX11_dispense_41 : decode cX11_dispense 41 = .ok (.iload_n 1, 1) := by decide +kernel
theorem dX11_dispense_42 : decode cX11_dispense 42 = .ok (.iload_n 2, 1) := by decide +kernel
theorem dX11_dispense_43 : decode cX11_dispense 43 = .ok (.iload_n 3, 1) := by decide +kernel
theorem dX11_dispense_44 : decode cX11_dispense 44 = .ok (.invokevirtual 170, 3) := by decide +kernel
theorem dX11_dispense_47 : decode cX11_dispense 47 = .ok (.ifCond .ne 13, 3) := by decide +kernel
theorem dX11_dispense_50 : decode cX11_dispense 50 = .ok (.new 103, 3) := by decide +kernel
theorem dX11_dispense_53 : decode cX11_dispense 53 = .ok (.dup, 1) := by decide +kernel
theorem dX11_dispense_54 : decode cX11_dispense 54 = .ok (.ldc 174, 2) := by decide +kernel
theorem dX11_dispense_56 : decode cX11_dispense 56 = .ok (.invokespecial 107, 3) := by decide +kernel
theorem dX11_dispense_59 : decode cX11_dispense 59 = .ok (.athrow, 1) := by decide +kernel
theorem dX11_dispense_60 : decode cX11_dispense 60 = .ok (.aload_n 0, 1) := by decide +kernel
theorem dX11_dispense_61 : decode cX11_dispense 61 = .ok (.getfield 26, 3) := by decide +kernel
theorem dX11_dispense_64 : decode cX11_dispense 64 = .ok (.invokevirtual 176, 3) := by decide +kernel
theorem dX11_dispense_67 : decode cX11_dispense 67 = .ok (.ireturn, 1) := by decide +kernel
theorem dX11_takeBack_0 : decode cX11_takeBack 0 = .ok (.aload_n 0, 1) := by decide +kernel
theorem dX11_takeBack_1 : decode cX11_takeBack 1 = .ok (.iload_n 1, 1) := by decide +kernel
theorem dX11_takeBack_2 : decode cX11_takeBack 2 = .ok (.invokevirtual 148, 3) := by decide +kernel
theorem dX11_takeBack_5 : decode cX11_takeBack 5 = .ok (.iload_n 2, 1) := by decide +kernel
theorem dX11_takeBack_6 : decode cX11_takeBack 6 = .ok (.invokestatic 67, 3) := by decide +kernel
theorem dX11_takeBack_9 : decode cX11_takeBack 9 = .ok (.aload_n 0, 1) := by decide +kernel
theorem dX11_takeBack_10 : decode cX11_takeBack 10 = .ok (.getfield 26, 3) := by decide +kernel
theorem dX11_takeBack_13 : decode cX11_takeBack 13 = .ok (.iload_n 1, 1) := by decide +kernel
theorem dX11_takeBack_14 : decode cX11_takeBack 14 = .ok (.iload_n 2, 1) := by decide +kernel
theorem dX11_takeBack_15 : decode cX11_takeBack 15 = .ok (.invokevirtual 179, 3) := by decide +kernel
theorem dX11_takeBack_18 : decode cX11_takeBack 18 = .ok (.istore_n 3, 1) := by decide +kernel
theorem dX11_takeBack_19 : decode cX11_takeBack 19 = .ok (.iload_n 3, 1) := by decide +kernel
theorem dX11_takeBack_20 : decode cX11_takeBack 20 = .ok (.iconst (-1), 1) := by decide +kernel
theorem dX11_takeBack_21 : decode cX11_takeBack 21 = .ok (.if_icmp .ne 13, 3) := by decide +kernel
theorem dX11_takeBack_24 : decode cX11_takeBack 24 = .ok (.new 103, 3) := by decide +kernel
theorem dX11_takeBack_27 : decode cX11_takeBack 27 = .ok (.dup, 1) := by decide +kernel
theorem dX11_takeBack_28 : decode cX11_takeBack 28 = .ok (.ldc 182, 2) := by decide +kernel
theorem dX11_takeBack_30 : decode cX11_takeBack 30 = .ok (.invokespecial 107, 3) := by decide +kernel
theorem dX11_takeBack_33 : decode cX11_takeBack 33 = .ok (.athrow, 1) := by decide +kernel
theorem dX11_takeBack_34 : decode cX11_takeBack 34 = .ok (.aload_n 0, 1) := by decide +kernel
theorem dX11_takeBack_35 : decode cX11_takeBack 35 = .ok (.getfield 26, 3) := by decide +kernel
theorem dX11_takeBack_38 : decode cX11_takeBack 38 = .ok (.iload_n 3, 1) := by decide +kernel
theorem dX11_takeBack_39 : decode cX11_takeBack 39 = .ok (.invokevirtual 184, 3) := by decide +kernel
theorem dX11_takeBack_42 : decode cX11_takeBack 42 = .ok (.ireturn, 1) := by decide +kernel
theorem dX11_bent_0 : decode cX11_bent 0 = .ok (.aload_n 0, 1) := by decide +kernel
theorem dX11_bent_1 : decode cX11_bent 1 = .ok (.iload_n 1, 1) := by decide +kernel
theorem dX11_bent_2 : decode cX11_bent 2 = .ok (.invokevirtual 148, 3) := by decide +kernel
theorem dX11_bent_5 : decode cX11_bent 5 = .ok (.iload_n 2, 1) := by decide +kernel
theorem dX11_bent_6 : decode cX11_bent 6 = .ok (.invokestatic 67, 3) := by decide +kernel
theorem dX11_bent_9 : decode cX11_bent 9 = .ok (.aload_n 0, 1) := by decide +kernel
theorem dX11_bent_10 : decode cX11_bent 10 = .ok (.getfield 35, 3) := by decide +kernel
theorem dX11_bent_13 : decode cX11_bent 13 = .ok (.iload_n 2, 1) := by decide +kernel
theorem dX11_bent_14 : decode cX11_bent 14 = .ok (.aload_n 0, 1) := by decide +kernel
theorem dX11_bent_15 : decode cX11_bent 15 = .ok (.getfield 63, 3) := by decide +kernel
theorem dX11_bent_18 : decode cX11_bent 18 = .ok (.invokevirtual 188, 3) := by decide +kernel
theorem dX11_bent_21 : decode cX11_bent 21 = .ok (.aload_n 0, 1) := by decide +kernel
theorem dX11_bent_22 : decode cX11_bent 22 = .ok (.getfield 35, 3) := by decide +kernel
theorem dX11_bent_25 : decode cX11_bent 25 = .ok (.iload_n 1, 1) := by decide +kernel
theorem dX11_bent_26 : decode cX11_bent 26 = .ok (.invokevirtual 192, 3) := by decide +kernel
theorem dX11_bent_29 : decode cX11_bent 29 = .ok (.ireturn, 1) := by decide +kernel
theorem dX11_day_0 : decode cX11_day 0 = .ok (.aload_n 0, 1) := by decide +kernel
theorem dX11_day_1 : decode cX11_day 1 = .ok (.iload_n 1, 1) := by decide +kernel
theorem dX11_day_2 : decode cX11_day 2 = .ok (.invokevirtual 148, 3) := by decide +kernel
theorem dX11_day_5 : decode cX11_day 5 = .ok (.iload_n 2, 1) := by decide +kernel
theorem dX11_day_6 : decode cX11_day 6 = .ok (.invokestatic 67, 3) := by decide +kernel
theorem dX11_day_9 : decode cX11_day 9 = .ok (.aload_n 0, 1) := by decide +kernel
theorem dX11_day_10 : decode cX11_day 10 = .ok (.getfield 35, 3) := by decide +kernel
theorem dX11_day_13 : decode cX11_day 13 = .ok (.iload_n 2, 1) := by decide +kernel
theorem dX11_day_14 : decode cX11_day 14 = .ok (.aload_n 0, 1) := by decide +kernel
theorem dX11_day_15 : decode cX11_day 15 = .ok (.getfield 63, 3) := by decide +kernel
theorem dX11_day_18 : decode cX11_day 18 = .ok (.invokevirtual 188, 3) := by decide +kernel
theorem dX11_day_21 : decode cX11_day 21 = .ok (.aload_n 0, 1) := by decide +kernel
theorem dX11_day_22 : decode cX11_day 22 = .ok (.getfield 35, 3) := by decide +kernel
theorem dX11_day_25 : decode cX11_day 25 = .ok (.invokevirtual 195, 3) := by decide +kernel
theorem dX11_day_28 : decode cX11_day 28 = .ok (.aload_n 0, 1) := by decide +kernel
theorem dX11_day_29 : decode cX11_day 29 = .ok (.getfield 35, 3) := by decide +kernel
theorem dX11_day_32 : decode cX11_day 32 = .ok (.iload_n 1, 1) := by decide +kernel
theorem dX11_day_33 : decode cX11_day 33 = .ok (.invokevirtual 198, 3) := by decide +kernel
theorem dX11_day_36 : decode cX11_day 36 = .ok (.ireturn, 1) := by decide +kernel
theorem dX11_dayByDays_0 : decode cX11_dayByDays 0 = .ok (.aload_n 0, 1) := by decide +kernel
theorem dX11_dayByDays_1 : decode cX11_dayByDays 1 = .ok (.iload_n 1, 1) := by decide +kernel
theorem dX11_dayByDays_2 : decode cX11_dayByDays 2 = .ok (.invokevirtual 148, 3) := by decide +kernel
theorem dX11_dayByDays_5 : decode cX11_dayByDays 5 = .ok (.iload_n 2, 1) := by decide +kernel
theorem dX11_dayByDays_6 : decode cX11_dayByDays 6 = .ok (.invokestatic 67, 3) := by decide +kernel
theorem dX11_dayByDays_9 : decode cX11_dayByDays 9 = .ok (.aload_n 0, 1) := by decide +kernel
theorem dX11_dayByDays_10 : decode cX11_dayByDays 10 = .ok (.getfield 45, 3) := by decide +kernel
theorem dX11_dayByDays_13 : decode cX11_dayByDays 13 = .ok (.iload_n 2, 1) := by decide +kernel
theorem dX11_dayByDays_14 : decode cX11_dayByDays 14 = .ok (.aload_n 0, 1) := by decide +kernel
theorem dX11_dayByDays_15 : decode cX11_dayByDays 15 = .ok (.getfield 63, 3) := by decide +kernel
theorem dX11_dayByDays_18 : decode cX11_dayByDays 18 = .ok (.invokevirtual 201, 3) := by decide +kernel
theorem dX11_dayByDays_21 : decode cX11_dayByDays 21 = .ok (.aload_n 0, 1) := by decide +kernel
theorem dX11_dayByDays_22 : decode cX11_dayByDays 22 = .ok (.getfield 45, 3) := by decide +kernel
theorem dX11_dayByDays_25 : decode cX11_dayByDays 25 = .ok (.iload_n 2, 1) := by decide +kernel
theorem dX11_dayByDays_26 : decode cX11_dayByDays 26 = .ok (.invokevirtual 204, 3) := by decide +kernel
theorem dX11_dayByDays_29 : decode cX11_dayByDays 29 = .ok (.aload_n 0, 1) := by decide +kernel
theorem dX11_dayByDays_30 : decode cX11_dayByDays 30 = .ok (.getfield 45, 3) := by decide +kernel
theorem dX11_dayByDays_33 : decode cX11_dayByDays 33 = .ok (.iload_n 1, 1) := by decide +kernel
theorem dX11_dayByDays_34 : decode cX11_dayByDays 34 = .ok (.invokevirtual 207, 3) := by decide +kernel
theorem dX11_dayByDays_37 : decode cX11_dayByDays 37 = .ok (.ireturn, 1) := by decide +kernel
theorem dX11_clashes_0 : decode cX11_clashes 0 = .ok (.iload_n 1, 1) := by decide +kernel
theorem dX11_clashes_1 : decode cX11_clashes 1 = .ok (.invokestatic 67, 3) := by decide +kernel
theorem dX11_clashes_4 : decode cX11_clashes 4 = .ok (.aload_n 0, 1) := by decide +kernel
theorem dX11_clashes_5 : decode cX11_clashes 5 = .ok (.getfield 35, 3) := by decide +kernel
theorem dX11_clashes_8 : decode cX11_clashes 8 = .ok (.iload_n 1, 1) := by decide +kernel
theorem dX11_clashes_9 : decode cX11_clashes 9 = .ok (.aload_n 0, 1) := by decide +kernel
theorem dX11_clashes_10 : decode cX11_clashes 10 = .ok (.getfield 63, 3) := by decide +kernel
theorem dX11_clashes_13 : decode cX11_clashes 13 = .ok (.invokevirtual 188, 3) := by decide +kernel
theorem dX11_clashes_16 : decode cX11_clashes 16 = .ok (.aload_n 0, 1) := by decide +kernel
theorem dX11_clashes_17 : decode cX11_clashes 17 = .ok (.getfield 35, 3) := by decide +kernel
theorem dX11_clashes_20 : decode cX11_clashes 20 = .ok (.invokevirtual 208, 3) := by decide +kernel
theorem dX11_clashes_23 : decode cX11_clashes 23 = .ok (.ireturn, 1) := by decide +kernel
theorem dX11_isMidnight_0 : decode cX11_isMidnight 0 = .ok (.aload_n 0, 1) := by decide +kernel
theorem dX11_isMidnight_1 : decode cX11_isMidnight 1 = .ok (.iload_n 1, 1) := by decide +kernel
theorem dX11_isMidnight_2 : decode cX11_isMidnight 2 = .ok (.invokevirtual 148, 3) := by decide +kernel
theorem dX11_isMidnight_5 : decode cX11_isMidnight 5 = .ok (.iload_n 2, 1) := by decide +kernel
theorem dX11_isMidnight_6 : decode cX11_isMidnight 6 = .ok (.invokestatic 67, 3) := by decide +kernel
theorem dX11_isMidnight_9 : decode cX11_isMidnight 9 = .ok (.aload_n 0, 1) := by decide +kernel
theorem dX11_isMidnight_10 : decode cX11_isMidnight 10 = .ok (.getfield 35, 3) := by decide +kernel
theorem dX11_isMidnight_13 : decode cX11_isMidnight 13 = .ok (.iload_n 2, 1) := by decide +kernel
theorem dX11_isMidnight_14 : decode cX11_isMidnight 14 = .ok (.aload_n 0, 1) := by decide +kernel
theorem dX11_isMidnight_15 : decode cX11_isMidnight 15 = .ok (.getfield 63, 3) := by decide +kernel
theorem dX11_isMidnight_18 : decode cX11_isMidnight 18 = .ok (.invokevirtual 188, 3) := by decide +kernel
theorem dX11_isMidnight_21 : decode cX11_isMidnight 21 = .ok (.aload_n 0, 1) := by decide +kernel
theorem dX11_isMidnight_22 : decode cX11_isMidnight 22 = .ok (.getfield 39, 3) := by decide +kernel
theorem dX11_isMidnight_25 : decode cX11_isMidnight 25 = .ok (.iload_n 2, 1) := by decide +kernel
theorem dX11_isMidnight_26 : decode cX11_isMidnight 26 = .ok (.aload_n 0, 1) := by decide +kernel
theorem dX11_isMidnight_27 : decode cX11_isMidnight 27 = .ok (.invokevirtual 211, 3) := by decide +kernel
theorem dX11_isMidnight_30 : decode cX11_isMidnight 30 = .ok (.invokevirtual 188, 3) := by decide +kernel
theorem dX11_isMidnight_33 : decode cX11_isMidnight 33 = .ok (.aload_n 0, 1) := by decide +kernel
theorem dX11_isMidnight_34 : decode cX11_isMidnight 34 = .ok (.getfield 35, 3) := by decide +kernel
theorem dX11_isMidnight_37 : decode cX11_isMidnight 37 = .ok (.aload_n 0, 1) := by decide +kernel
theorem dX11_isMidnight_38 : decode cX11_isMidnight 38 = .ok (.getfield 39, 3) := by decide +kernel
theorem dX11_isMidnight_41 : decode cX11_isMidnight 41 = .ok (.iload_n 1, 1) := by decide +kernel
theorem dX11_isMidnight_42 : decode cX11_isMidnight 42 = .ok (.invokevirtual 214, 3) := by decide +kernel
theorem dX11_isMidnight_45 : decode cX11_isMidnight 45 = .ok (.ireturn, 1) := by decide +kernel
theorem dX11_cost_0 : decode cX11_cost 0 = .ok (.aload_n 0, 1) := by decide +kernel
theorem dX11_cost_1 : decode cX11_cost 1 = .ok (.iload_n 1, 1) := by decide +kernel
theorem dX11_cost_2 : decode cX11_cost 2 = .ok (.invokevirtual 148, 3) := by decide +kernel
theorem dX11_cost_5 : decode cX11_cost 5 = .ok (.iload_n 2, 1) := by decide +kernel
theorem dX11_cost_6 : decode cX11_cost 6 = .ok (.invokestatic 67, 3) := by decide +kernel
theorem dX11_cost_9 : decode cX11_cost 9 = .ok (.aload_n 0, 1) := by decide +kernel
theorem dX11_cost_10 : decode cX11_cost 10 = .ok (.getfield 35, 3) := by decide +kernel
theorem dX11_cost_13 : decode cX11_cost 13 = .ok (.iload_n 2, 1) := by decide +kernel
theorem dX11_cost_14 : decode cX11_cost 14 = .ok (.aload_n 0, 1) := by decide +kernel
theorem dX11_cost_15 : decode cX11_cost 15 = .ok (.getfield 63, 3) := by decide +kernel
theorem dX11_cost_18 : decode cX11_cost 18 = .ok (.invokevirtual 188, 3) := by decide +kernel
theorem dX11_cost_21 : decode cX11_cost 21 = .ok (.aload_n 0, 1) := by decide +kernel
theorem dX11_cost_22 : decode cX11_cost 22 = .ok (.getfield 35, 3) := by decide +kernel
theorem dX11_cost_25 : decode cX11_cost 25 = .ok (.iload_n 1, 1) := by decide +kernel
theorem dX11_cost_26 : decode cX11_cost 26 = .ok (.invokevirtual 229, 3) := by decide +kernel
theorem dX11_cost_29 : decode cX11_cost 29 = .ok (.ireturn, 1) := by decide +kernel
theorem dX11_yearCost_0 : decode cX11_yearCost 0 = .ok (.iload_n 1, 1) := by decide +kernel
theorem dX11_yearCost_1 : decode cX11_yearCost 1 = .ok (.invokestatic 67, 3) := by decide +kernel
theorem dX11_yearCost_4 : decode cX11_yearCost 4 = .ok (.aload_n 0, 1) := by decide +kernel
theorem dX11_yearCost_5 : decode cX11_yearCost 5 = .ok (.getfield 35, 3) := by decide +kernel
theorem dX11_yearCost_8 : decode cX11_yearCost 8 = .ok (.iload_n 1, 1) := by decide +kernel
theorem dX11_yearCost_9 : decode cX11_yearCost 9 = .ok (.aload_n 0, 1) := by decide +kernel
theorem dX11_yearCost_10 : decode cX11_yearCost 10 = .ok (.getfield 63, 3) := by decide +kernel
theorem dX11_yearCost_13 : decode cX11_yearCost 13 = .ok (.invokevirtual 188, 3) := by decide +kernel
theorem dX11_yearCost_16 : decode cX11_yearCost 16 = .ok (.aload_n 0, 1) := by decide +kernel
theorem dX11_yearCost_17 : decode cX11_yearCost 17 = .ok (.getfield 35, 3) := by decide +kernel
theorem dX11_yearCost_20 : decode cX11_yearCost 20 = .ok (.invokevirtual 232, 3) := by decide +kernel
theorem dX11_yearCost_23 : decode cX11_yearCost 23 = .ok (.ireturn, 1) := by decide +kernel
theorem dX11_search_0 : decode cX11_search 0 = .ok (.iload_n 1, 1) := by decide +kernel
theorem dX11_search_1 : decode cX11_search 1 = .ok (.invokestatic 67, 3) := by decide +kernel
theorem dX11_search_4 : decode cX11_search 4 = .ok (.aload_n 0, 1) := by decide +kernel
theorem dX11_search_5 : decode cX11_search 5 = .ok (.getfield 19, 3) := by decide +kernel
theorem dX11_search_8 : decode cX11_search 8 = .ok (.aload_n 0, 1) := by decide +kernel
theorem dX11_search_9 : decode cX11_search 9 = .ok (.getfield 10, 3) := by decide +kernel
theorem dX11_search_12 : decode cX11_search 12 = .ok (.invokevirtual 119, 3) := by decide +kernel
theorem dX11_search_15 : decode cX11_search 15 = .ok (.iconst (-1), 1) := by decide +kernel
theorem dX11_search_16 : decode cX11_search 16 = .ok (.if_icmp .eq 13, 3) := by decide +kernel
theorem dX11_search_19 : decode cX11_search 19 = .ok (.new 77, 3) := by decide +kernel
theorem dX11_search_22 : decode cX11_search 22 = .ok (.dup, 1) := by decide +kernel
theorem dX11_search_23 : decode cX11_search 23 = .ok (.ldc 235, 2) := by decide +kernel
theorem dX11_search_25 : decode cX11_search 25 = .ok (.invokespecial 81, 3) := by decide +kernel
theorem dX11_search_28 : decode cX11_search 28 = .ok (.athrow, 1) := by decide +kernel
theorem dX11_search_29 : decode cX11_search 29 = .ok (.aload_n 0, 1) := by decide +kernel
theorem dX11_search_30 : decode cX11_search 30 = .ok (.invokevirtual 133, 3) := by decide +kernel
theorem dX11_search_33 : decode cX11_search 33 = .ok (.aload_n 0, 1) := by decide +kernel
theorem dX11_search_34 : decode cX11_search 34 = .ok (.getfield 52, 3) := by decide +kernel
theorem dX11_search_37 : decode cX11_search 37 = .ok (.aload_n 0, 1) := by decide +kernel
theorem dX11_search_38 : decode cX11_search 38 = .ok (.getfield 19, 3) := by decide +kernel
theorem dX11_search_41 : decode cX11_search 41 = .ok (.invokevirtual 136, 3) := by decide +kernel
theorem dX11_search_44 : decode cX11_search 44 = .ok (.iload_n 1, 1) := by decide +kernel
theorem dX11_search_45 : decode cX11_search 45 = .ok (.invokevirtual 237, 3) := by decide +kernel
theorem dX11_search_48 : decode cX11_search 48 = .ok (.aload_n 0, 1) := by decide +kernel
theorem dX11_search_49 : decode cX11_search 49 = .ok (.getfield 10, 3) := by decide +kernel
theorem dX11_search_52 : decode cX11_search 52 = .ok (.invokevirtual 112, 3) := by decide +kernel
theorem dX11_search_55 : decode cX11_search 55 = .ok (.aload_n 0, 1) := by decide +kernel
theorem dX11_search_56 : decode cX11_search 56 = .ok (.getfield 35, 3) := by decide +kernel
theorem dX11_search_59 : decode cX11_search 59 = .ok (.iload_n 1, 1) := by decide +kernel
theorem dX11_search_60 : decode cX11_search 60 = .ok (.aload_n 0, 1) := by decide +kernel
theorem dX11_search_61 : decode cX11_search 61 = .ok (.getfield 63, 3) := by decide +kernel
theorem dX11_search_64 : decode cX11_search 64 = .ok (.invokevirtual 188, 3) := by decide +kernel
theorem dX11_search_67 : decode cX11_search 67 = .ok (.aload_n 0, 1) := by decide +kernel
theorem dX11_search_68 : decode cX11_search 68 = .ok (.getfield 35, 3) := by decide +kernel
theorem dX11_search_71 : decode cX11_search 71 = .ok (.invokevirtual 232, 3) := by decide +kernel
theorem dX11_search_74 : decode cX11_search 74 = .ok (.ireturn, 1) := by decide +kernel
theorem dX11_goOn_0 : decode cX11_goOn 0 = .ok (.iload_n 1, 1) := by decide +kernel
theorem dX11_goOn_1 : decode cX11_goOn 1 = .ok (.iconst 1, 1) := by decide +kernel
theorem dX11_goOn_2 : decode cX11_goOn 2 = .ok (.if_icmp .lt 9, 3) := by decide +kernel
theorem dX11_goOn_5 : decode cX11_goOn 5 = .ok (.iload_n 1, 1) := by decide +kernel
theorem dX11_goOn_6 : decode cX11_goOn 6 = .ok (.ldc 241, 2) := by decide +kernel
theorem dX11_goOn_8 : decode cX11_goOn 8 = .ok (.if_icmp .le 13, 3) := by decide +kernel
theorem dX11_goOn_11 : decode cX11_goOn 11 = .ok (.new 77, 3) := by decide +kernel
theorem dX11_goOn_14 : decode cX11_goOn 14 = .ok (.dup, 1) := by decide +kernel
theorem dX11_goOn_15 : decode cX11_goOn 15 = .ok (.ldc 242, 2) := by decide +kernel
theorem dX11_goOn_17 : decode cX11_goOn 17 = .ok (.invokespecial 81, 3) := by decide +kernel
theorem dX11_goOn_20 : decode cX11_goOn 20 = .ok (.athrow, 1) := by decide +kernel
theorem dX11_goOn_21 : decode cX11_goOn 21 = .ok (.aload_n 0, 1) := by decide +kernel
theorem dX11_goOn_22 : decode cX11_goOn 22 = .ok (.getfield 52, 3) := by decide +kernel
theorem dX11_goOn_25 : decode cX11_goOn 25 = .ok (.invokevirtual 244, 3) := by decide +kernel
theorem dX11_goOn_28 : decode cX11_goOn 28 = .ok (.ifCond .ne 13, 3) := by decide +kernel
theorem dX11_goOn_31 : decode cX11_goOn 31 = .ok (.new 103, 3) := by decide +kernel
theorem dX11_goOn_34 : decode cX11_goOn 34 = .ok (.dup, 1) := by decide +kernel
theorem dX11_goOn_35 : decode cX11_goOn 35 = .ok (.ldc 247, 2) := by decide +kernel
theorem dX11_goOn_37 : decode cX11_goOn 37 = .ok (.invokespecial 107, 3) := by decide +kernel
theorem dX11_goOn_40 : decode cX11_goOn 40 = .ok (.athrow, 1) := by decide +kernel
theorem dX11_goOn_41 : decode cX11_goOn 41 = .ok (.aload_n 0, 1) := by decide +kernel
theorem dX11_goOn_42 : decode cX11_goOn 42 = .ok (.getfield 52, 3) := by decide +kernel
theorem dX11_goOn_45 : decode cX11_goOn 45 = .ok (.iload_n 1, 1) := by decide +kernel
theorem dX11_goOn_46 : decode cX11_goOn 46 = .ok (.aload_n 0, 1) := by decide +kernel
theorem dX11_goOn_47 : decode cX11_goOn 47 = .ok (.getfield 35, 3) := by decide +kernel
theorem dX11_goOn_50 : decode cX11_goOn 50 = .ok (.aload_n 0, 1) := by decide +kernel
theorem dX11_goOn_51 : decode cX11_goOn 51 = .ok (.getfield 63, 3) := by decide +kernel
theorem dX11_goOn_54 : decode cX11_goOn 54 = .ok (.invokevirtual 249, 3) := by decide +kernel
theorem dX11_goOn_57 : decode cX11_goOn 57 = .ok (.ireturn, 1) := by decide +kernel
theorem dX11_spent_0 : decode cX11_spent 0 = .ok (.aload_n 0, 1) := by decide +kernel
theorem dX11_spent_1 : decode cX11_spent 1 = .ok (.getfield 52, 3) := by decide +kernel
theorem dX11_spent_4 : decode cX11_spent 4 = .ok (.invokevirtual 253, 3) := by decide +kernel
theorem dX11_spent_7 : decode cX11_spent 7 = .ok (.lreturn, 1) := by decide +kernel
theorem dX11_bells_0 : decode cX11_bells 0 = .ok (.iload_n 1, 1) := by decide +kernel
theorem dX11_bells_1 : decode cX11_bells 1 = .ok (.invokestatic 257, 3) := by decide +kernel
theorem dX11_bells_4 : decode cX11_bells 4 = .ok (.iload_n 2, 1) := by decide +kernel
theorem dX11_bells_5 : decode cX11_bells 5 = .ok (.ifCond .lt 9, 3) := by decide +kernel
theorem dX11_bells_8 : decode cX11_bells 8 = .ok (.iload_n 2, 1) := by decide +kernel
theorem dX11_bells_9 : decode cX11_bells 9 = .ok (.bipush 6, 2) := by decide +kernel
theorem dX11_bells_11 : decode cX11_bells 11 = .ok (.if_icmp .le 14, 3) := by decide +kernel
theorem dX11_bells_14 : decode cX11_bells 14 = .ok (.new 77, 3) := by decide +kernel
theorem dX11_bells_17 : decode cX11_bells 17 = .ok (.dup, 1) := by decide +kernel
theorem dX11_bells_18 : decode cX11_bells 18 = .ok (.ldc_w 260, 3) := by decide +kernel
theorem dX11_bells_21 : decode cX11_bells 21 = .ok (.invokespecial 81, 3) := by decide +kernel
theorem dX11_bells_24 : decode cX11_bells 24 = .ok (.athrow, 1) := by decide +kernel
theorem dX11_bells_25 : decode cX11_bells 25 = .ok (.aload_n 0, 1) := by decide +kernel
theorem dX11_bells_26 : decode cX11_bells 26 = .ok (.getfield 59, 3) := by decide +kernel
theorem dX11_bells_29 : decode cX11_bells 29 = .ok (.iload_n 1, 1) := by decide +kernel
theorem dX11_bells_30 : decode cX11_bells 30 = .ok (.iload_n 2, 1) := by decide +kernel
theorem dX11_bells_31 : decode cX11_bells 31 = .ok (.invokevirtual 262, 3) := by decide +kernel
theorem dX11_bells_34 : decode cX11_bells 34 = .ok (.ireturn, 1) := by decide +kernel
theorem dX11_ringer_0 : decode cX11_ringer 0 = .ok (.iload_n 1, 1) := by decide +kernel
theorem dX11_ringer_1 : decode cX11_ringer 1 = .ok (.invokestatic 257, 3) := by decide +kernel
theorem dX11_ringer_4 : decode cX11_ringer 4 = .ok (.iload_n 2, 1) := by decide +kernel
theorem dX11_ringer_5 : decode cX11_ringer 5 = .ok (.ifCond .lt 9, 3) := by decide +kernel
theorem dX11_ringer_8 : decode cX11_ringer 8 = .ok (.iload_n 2, 1) := by decide +kernel
theorem dX11_ringer_9 : decode cX11_ringer 9 = .ok (.bipush 6, 2) := by decide +kernel
theorem dX11_ringer_11 : decode cX11_ringer 11 = .ok (.if_icmp .le 14, 3) := by decide +kernel
theorem dX11_ringer_14 : decode cX11_ringer 14 = .ok (.new 77, 3) := by decide +kernel
theorem dX11_ringer_17 : decode cX11_ringer 17 = .ok (.dup, 1) := by decide +kernel
theorem dX11_ringer_18 : decode cX11_ringer 18 = .ok (.ldc_w 265, 3) := by decide +kernel
theorem dX11_ringer_21 : decode cX11_ringer 21 = .ok (.invokespecial 81, 3) := by decide +kernel
theorem dX11_ringer_24 : decode cX11_ringer 24 = .ok (.athrow, 1) := by decide +kernel
theorem dX11_ringer_25 : decode cX11_ringer 25 = .ok (.aload_n 0, 1) := by decide +kernel
theorem dX11_ringer_26 : decode cX11_ringer 26 = .ok (.getfield 59, 3) := by decide +kernel
theorem dX11_ringer_29 : decode cX11_ringer 29 = .ok (.iload_n 1, 1) := by decide +kernel
theorem dX11_ringer_30 : decode cX11_ringer 30 = .ok (.iload_n 2, 1) := by decide +kernel
theorem dX11_ringer_31 : decode cX11_ringer 31 = .ok (.invokevirtual 267, 3) := by decide +kernel
theorem dX11_ringer_34 : decode cX11_ringer 34 = .ok (.istore_n 3, 1) := by decide +kernel
theorem dX11_ringer_35 : decode cX11_ringer 35 = .ok (.iload_n 3, 1) := by decide +kernel
theorem dX11_ringer_36 : decode cX11_ringer 36 = .ok (.iconst (-1), 1) := by decide +kernel
theorem dX11_ringer_37 : decode cX11_ringer 37 = .ok (.if_icmp .ne 14, 3) := by decide +kernel
theorem dX11_ringer_40 : decode cX11_ringer 40 = .ok (.new 103, 3) := by decide +kernel
theorem dX11_ringer_43 : decode cX11_ringer 43 = .ok (.dup, 1) := by decide +kernel
theorem dX11_ringer_44 : decode cX11_ringer 44 = .ok (.ldc_w 270, 3) := by decide +kernel
theorem dX11_ringer_47 : decode cX11_ringer 47 = .ok (.invokespecial 107, 3) := by decide +kernel
theorem dX11_ringer_50 : decode cX11_ringer 50 = .ok (.athrow, 1) := by decide +kernel
theorem dX11_ringer_51 : decode cX11_ringer 51 = .ok (.iload_n 3, 1) := by decide +kernel
theorem dX11_ringer_52 : decode cX11_ringer 52 = .ok (.ireturn, 1) := by decide +kernel
theorem dX11_rings_0 : decode cX11_rings 0 = .ok (.aload_n 0, 1) := by decide +kernel
theorem dX11_rings_1 : decode cX11_rings 1 = .ok (.iload_n 1, 1) := by decide +kernel
theorem dX11_rings_2 : decode cX11_rings 2 = .ok (.invokevirtual 148, 3) := by decide +kernel
theorem dX11_rings_5 : decode cX11_rings 5 = .ok (.iload_n 3, 1) := by decide +kernel
theorem dX11_rings_6 : decode cX11_rings 6 = .ok (.invokestatic 257, 3) := by decide +kernel
theorem dX11_rings_9 : decode cX11_rings 9 = .ok (.iload_n 2, 1) := by decide +kernel
theorem dX11_rings_10 : decode cX11_rings 10 = .ok (.invokestatic 67, 3) := by decide +kernel
theorem dX11_rings_13 : decode cX11_rings 13 = .ok (.iload 4, 2) := by decide +kernel
theorem dX11_rings_15 : decode cX11_rings 15 = .ok (.ifCond .lt 10, 3) := by decide +kernel
theorem dX11_rings_18 : decode cX11_rings 18 = .ok (.iload 4, 2) := by decide +kernel
theorem dX11_rings_20 : decode cX11_rings 20 = .ok (.bipush 6, 2) := by decide +kernel
theorem dX11_rings_22 : decode cX11_rings 22 = .ok (.if_icmp .lt 14, 3) := by decide +kernel
theorem dX11_rings_25 : decode cX11_rings 25 = .ok (.new 77, 3) := by decide +kernel
theorem dX11_rings_28 : decode cX11_rings 28 = .ok (.dup, 1) := by decide +kernel
theorem dX11_rings_29 : decode cX11_rings 29 = .ok (.ldc_w 272, 3) := by decide +kernel
theorem dX11_rings_32 : decode cX11_rings 32 = .ok (.invokespecial 81, 3) := by decide +kernel
theorem dX11_rings_35 : decode cX11_rings 35 = .ok (.athrow, 1) := by decide +kernel
theorem dX11_rings_36 : decode cX11_rings 36 = .ok (.aload_n 0, 1) := by decide +kernel
theorem dX11_rings_37 : decode cX11_rings 37 = .ok (.iload_n 2, 1) := by decide +kernel
theorem dX11_rings_38 : decode cX11_rings 38 = .ok (.invokevirtual 274, 3) := by decide +kernel
theorem dX11_rings_41 : decode cX11_rings 41 = .ok (.aload_n 0, 1) := by decide +kernel
theorem dX11_rings_42 : decode cX11_rings 42 = .ok (.getfield 59, 3) := by decide +kernel
theorem dX11_rings_45 : decode cX11_rings 45 = .ok (.iload_n 1, 1) := by decide +kernel
theorem dX11_rings_46 : decode cX11_rings 46 = .ok (.iload_n 3, 1) := by decide +kernel
theorem dX11_rings_47 : decode cX11_rings 47 = .ok (.iload 4, 2) := by decide +kernel
theorem dX11_rings_49 : decode cX11_rings 49 = .ok (.invokevirtual 277, 3) := by decide +kernel
theorem dX11_rings_52 : decode cX11_rings 52 = .ok (.ireturn, 1) := by decide +kernel
theorem dX11_silent_0 : decode cX11_silent 0 = .ok (.iload_n 1, 1) := by decide +kernel
theorem dX11_silent_1 : decode cX11_silent 1 = .ok (.invokestatic 67, 3) := by decide +kernel
theorem dX11_silent_4 : decode cX11_silent 4 = .ok (.aload_n 0, 1) := by decide +kernel
theorem dX11_silent_5 : decode cX11_silent 5 = .ok (.iload_n 1, 1) := by decide +kernel
theorem dX11_silent_6 : decode cX11_silent 6 = .ok (.invokevirtual 274, 3) := by decide +kernel
theorem dX11_silent_9 : decode cX11_silent 9 = .ok (.aload_n 0, 1) := by decide +kernel
theorem dX11_silent_10 : decode cX11_silent 10 = .ok (.getfield 59, 3) := by decide +kernel
theorem dX11_silent_13 : decode cX11_silent 13 = .ok (.invokevirtual 281, 3) := by decide +kernel
theorem dX11_silent_16 : decode cX11_silent 16 = .ok (.ireturn, 1) := by decide +kernel
theorem dX11_peals_0 : decode cX11_peals 0 = .ok (.iload_n 1, 1) := by decide +kernel
theorem dX11_peals_1 : decode cX11_peals 1 = .ok (.ifCond .lt 14, 3) := by decide +kernel
theorem dX11_peals_4 : decode cX11_peals 4 = .ok (.iload_n 1, 1) := by decide +kernel
theorem dX11_peals_5 : decode cX11_peals 5 = .ok (.aload_n 0, 1) := by decide +kernel
theorem dX11_peals_6 : decode cX11_peals 6 = .ok (.getfield 59, 3) := by decide +kernel
theorem dX11_peals_9 : decode cX11_peals 9 = .ok (.invokevirtual 284, 3) := by decide +kernel
theorem dX11_peals_12 : decode cX11_peals 12 = .ok (.if_icmp .lt 14, 3) := by decide +kernel
theorem dX11_peals_15 : decode cX11_peals 15 = .ok (.new 218, 3) := by decide +kernel
theorem dX11_peals_18 : decode cX11_peals 18 = .ok (.dup, 1) := by decide +kernel
theorem dX11_peals_19 : decode cX11_peals 19 = .ok (.ldc_w 285, 3) := by decide +kernel
theorem dX11_peals_22 : decode cX11_peals 22 = .ok (.invokespecial 222, 3) := by decide +kernel
theorem dX11_peals_25 : decode cX11_peals 25 = .ok (.athrow, 1) := by decide +kernel
theorem dX11_peals_26 : decode cX11_peals 26 = .ok (.iload_n 2, 1) := by decide +kernel
theorem dX11_peals_27 : decode cX11_peals 27 = .ok (.invokestatic 67, 3) := by decide +kernel
theorem dX11_peals_30 : decode cX11_peals 30 = .ok (.aload_n 0, 1) := by decide +kernel
theorem dX11_peals_31 : decode cX11_peals 31 = .ok (.iload_n 2, 1) := by decide +kernel
theorem dX11_peals_32 : decode cX11_peals 32 = .ok (.invokevirtual 274, 3) := by decide +kernel
theorem dX11_peals_35 : decode cX11_peals 35 = .ok (.aload_n 0, 1) := by decide +kernel
theorem dX11_peals_36 : decode cX11_peals 36 = .ok (.getfield 59, 3) := by decide +kernel
theorem dX11_peals_39 : decode cX11_peals 39 = .ok (.iload_n 1, 1) := by decide +kernel
theorem dX11_peals_40 : decode cX11_peals 40 = .ok (.invokevirtual 287, 3) := by decide +kernel
theorem dX11_peals_43 : decode cX11_peals 43 = .ok (.ireturn, 1) := by decide +kernel
theorem dX11_ringYear_0 : decode cX11_ringYear 0 = .ok (.aload_n 0, 1) := by decide +kernel
theorem dX11_ringYear_1 : decode cX11_ringYear 1 = .ok (.getfield 35, 3) := by decide +kernel
theorem dX11_ringYear_4 : decode cX11_ringYear 4 = .ok (.iload_n 1, 1) := by decide +kernel
theorem dX11_ringYear_5 : decode cX11_ringYear 5 = .ok (.aload_n 0, 1) := by decide +kernel
theorem dX11_ringYear_6 : decode cX11_ringYear 6 = .ok (.getfield 63, 3) := by decide +kernel
theorem dX11_ringYear_9 : decode cX11_ringYear 9 = .ok (.invokevirtual 188, 3) := by decide +kernel
theorem dX11_ringYear_12 : decode cX11_ringYear 12 = .ok (.aload_n 0, 1) := by decide +kernel
theorem dX11_ringYear_13 : decode cX11_ringYear 13 = .ok (.getfield 39, 3) := by decide +kernel
theorem dX11_ringYear_16 : decode cX11_ringYear 16 = .ok (.iload_n 1, 1) := by decide +kernel
theorem dX11_ringYear_17 : decode cX11_ringYear 17 = .ok (.aload_n 0, 1) := by decide +kernel
theorem dX11_ringYear_18 : decode cX11_ringYear 18 = .ok (.invokevirtual 211, 3) := by decide +kernel
theorem dX11_ringYear_21 : decode cX11_ringYear 21 = .ok (.invokevirtual 188, 3) := by decide +kernel
theorem dX11_ringYear_24 : decode cX11_ringYear 24 = .ok (.aload_n 0, 1) := by decide +kernel
theorem dX11_ringYear_25 : decode cX11_ringYear 25 = .ok (.getfield 35, 3) := by decide +kernel
theorem dX11_ringYear_28 : decode cX11_ringYear 28 = .ok (.invokevirtual 195, 3) := by decide +kernel
theorem dX11_ringYear_31 : decode cX11_ringYear 31 = .ok (.aload_n 0, 1) := by decide +kernel
theorem dX11_ringYear_32 : decode cX11_ringYear 32 = .ok (.getfield 59, 3) := by decide +kernel
theorem dX11_ringYear_35 : decode cX11_ringYear 35 = .ok (.aload_n 0, 1) := by decide +kernel
theorem dX11_ringYear_36 : decode cX11_ringYear 36 = .ok (.getfield 26, 3) := by decide +kernel
theorem dX11_ringYear_39 : decode cX11_ringYear 39 = .ok (.aload_n 0, 1) := by decide +kernel
theorem dX11_ringYear_40 : decode cX11_ringYear 40 = .ok (.getfield 35, 3) := by decide +kernel
theorem dX11_ringYear_43 : decode cX11_ringYear 43 = .ok (.aload_n 0, 1) := by decide +kernel
theorem dX11_ringYear_44 : decode cX11_ringYear 44 = .ok (.getfield 39, 3) := by decide +kernel
theorem dX11_ringYear_47 : decode cX11_ringYear 47 = .ok (.invokevirtual 290, 3) := by decide +kernel
theorem dX11_ringYear_50 : decode cX11_ringYear 50 = .ok (.return_, 1) := by decide +kernel
theorem dX11_otherTable_0 : decode cX11_otherTable 0 = .ok (.aload_n 0, 1) := by decide +kernel
theorem dX11_otherTable_1 : decode cX11_otherTable 1 = .ok (.getfield 63, 3) := by decide +kernel
theorem dX11_otherTable_4 : decode cX11_otherTable 4 = .ok (.ifCond .ne 7, 3) := by decide +kernel
theorem dX11_otherTable_7 : decode cX11_otherTable 7 = .ok (.iconst 1, 1) := by decide +kernel
theorem dX11_otherTable_8 : decode cX11_otherTable 8 = .ok (.goto 4, 3) := by decide +kernel
theorem dX11_otherTable_11 : decode cX11_otherTable 11 = .ok (.iconst 0, 1) := by decide +kernel
theorem dX11_otherTable_12 : decode cX11_otherTable 12 = .ok (.ireturn, 1) := by decide +kernel
theorem dX11_checkYear_0 : decode cX11_checkYear 0 = .ok (.iload_n 0, 1) := by decide +kernel
theorem dX11_checkYear_1 : decode cX11_checkYear 1 = .ok (.ifCond .lt 10, 3) := by decide +kernel
theorem dX11_checkYear_4 : decode cX11_checkYear 4 = .ok (.iload_n 0, 1) := by decide +kernel
theorem dX11_checkYear_5 : decode cX11_checkYear 5 = .ok (.sipush 399, 3) := by decide +kernel
theorem dX11_checkYear_8 : decode cX11_checkYear 8 = .ok (.if_icmp .le 14, 3) := by decide +kernel
theorem dX11_checkYear_11 : decode cX11_checkYear 11 = .ok (.new 77, 3) := by decide +kernel
theorem dX11_checkYear_14 : decode cX11_checkYear 14 = .ok (.dup, 1) := by decide +kernel
theorem dX11_checkYear_15 : decode cX11_checkYear 15 = .ok (.ldc_w 293, 3) := by decide +kernel
theorem dX11_checkYear_18 : decode cX11_checkYear 18 = .ok (.invokespecial 81, 3) := by decide +kernel
theorem dX11_checkYear_21 : decode cX11_checkYear 21 = .ok (.athrow, 1) := by decide +kernel
theorem dX11_checkYear_22 : decode cX11_checkYear 22 = .ok (.return_, 1) := by decide +kernel
theorem dX11_checkTable_0 : decode cX11_checkTable 0 = .ok (.iload_n 0, 1) := by decide +kernel
theorem dX11_checkTable_1 : decode cX11_checkTable 1 = .ok (.ifCond .eq 19, 3) := by decide +kernel
theorem dX11_checkTable_4 : decode cX11_checkTable 4 = .ok (.iload_n 0, 1) := by decide +kernel
theorem dX11_checkTable_5 : decode cX11_checkTable 5 = .ok (.iconst 1, 1) := by decide +kernel
theorem dX11_checkTable_6 : decode cX11_checkTable 6 = .ok (.if_icmp .eq 14, 3) := by decide +kernel
theorem dX11_checkTable_9 : decode cX11_checkTable 9 = .ok (.new 77, 3) := by decide +kernel
theorem dX11_checkTable_12 : decode cX11_checkTable 12 = .ok (.dup, 1) := by decide +kernel
theorem dX11_checkTable_13 : decode cX11_checkTable 13 = .ok (.ldc_w 295, 3) := by decide +kernel
theorem dX11_checkTable_16 : decode cX11_checkTable 16 = .ok (.invokespecial 81, 3) := by decide +kernel
theorem dX11_checkTable_19 : decode cX11_checkTable 19 = .ok (.athrow, 1) := by decide +kernel
theorem dX11_checkTable_20 : decode cX11_checkTable 20 = .ok (.return_, 1) := by decide +kernel
theorem dX11_checkRank_0 : decode cX11_checkRank 0 = .ok (.iload_n 0, 1) := by decide +kernel
theorem dX11_checkRank_1 : decode cX11_checkRank 1 = .ok (.ifCond .lt 9, 3) := by decide +kernel
theorem dX11_checkRank_4 : decode cX11_checkRank 4 = .ok (.iload_n 0, 1) := by decide +kernel
theorem dX11_checkRank_5 : decode cX11_checkRank 5 = .ok (.bipush 9, 2) := by decide +kernel
theorem dX11_checkRank_7 : decode cX11_checkRank 7 = .ok (.if_icmp .le 14, 3) := by decide +kernel
theorem dX11_checkRank_10 : decode cX11_checkRank 10 = .ok (.new 77, 3) := by decide +kernel
theorem dX11_checkRank_13 : decode cX11_checkRank 13 = .ok (.dup, 1) := by decide +kernel
theorem dX11_checkRank_14 : decode cX11_checkRank 14 = .ok (.ldc_w 297, 3) := by decide +kernel
theorem dX11_checkRank_17 : decode cX11_checkRank 17 = .ok (.invokespecial 81, 3) := by decide +kernel
theorem dX11_checkRank_20 : decode cX11_checkRank 20 = .ok (.athrow, 1) := by decide +kernel
theorem dX11_checkRank_21 : decode cX11_checkRank 21 = .ok (.return_, 1) := by decide +kernel
theorem dX11_checkParish_0 : decode cX11_checkParish 0 = .ok (.iload_n 0, 1) := by decide +kernel
theorem dX11_checkParish_1 : decode cX11_checkParish 1 = .ok (.ifCond .lt 9, 3) := by decide +kernel
theorem dX11_checkParish_4 : decode cX11_checkParish 4 = .ok (.iload_n 0, 1) := by decide +kernel
theorem dX11_checkParish_5 : decode cX11_checkParish 5 = .ok (.bipush 6, 2) := by decide +kernel
theorem dX11_checkParish_7 : decode cX11_checkParish 7 = .ok (.if_icmp .lt 14, 3) := by decide +kernel
theorem dX11_checkParish_10 : decode cX11_checkParish 10 = .ok (.new 218, 3) := by decide +kernel
theorem dX11_checkParish_13 : decode cX11_checkParish 13 = .ok (.dup, 1) := by decide +kernel
theorem dX11_checkParish_14 : decode cX11_checkParish 14 = .ok (.ldc_w 299, 3) := by decide +kernel
theorem dX11_checkParish_17 : decode cX11_checkParish 17 = .ok (.invokespecial 222, 3) := by decide +kernel
theorem dX11_checkParish_20 : decode cX11_checkParish 20 = .ok (.athrow, 1) := by decide +kernel
theorem dX11_checkParish_21 : decode cX11_checkParish 21 = .ok (.return_, 1) := by decide +kernel
theorem dX11_checkFeast_0 : decode cX11_checkFeast 0 = .ok (.iload_n 1, 1) := by decide +kernel
theorem dX11_checkFeast_1 : decode cX11_checkFeast 1 = .ok (.ifCond .lt 14, 3) := by decide +kernel
theorem dX11_checkFeast_4 : decode cX11_checkFeast 4 = .ok (.iload_n 1, 1) := by decide +kernel
theorem dX11_checkFeast_5 : decode cX11_checkFeast 5 = .ok (.aload_n 0, 1) := by decide +kernel
theorem dX11_checkFeast_6 : decode cX11_checkFeast 6 = .ok (.getfield 26, 3) := by decide +kernel
theorem dX11_checkFeast_9 : decode cX11_checkFeast 9 = .ok (.invokevirtual 187, 3) := by decide +kernel
theorem dX11_checkFeast_12 : decode cX11_checkFeast 12 = .ok (.if_icmp .lt 14, 3) := by decide +kernel
theorem dX11_checkFeast_15 : decode cX11_checkFeast 15 = .ok (.new 218, 3) := by decide +kernel
theorem dX11_checkFeast_18 : decode cX11_checkFeast 18 = .ok (.dup, 1) := by decide +kernel
theorem dX11_checkFeast_19 : decode cX11_checkFeast 19 = .ok (.ldc_w 301, 3) := by decide +kernel
theorem dX11_checkFeast_22 : decode cX11_checkFeast 22 = .ok (.invokespecial 222, 3) := by decide +kernel
theorem dX11_checkFeast_25 : decode cX11_checkFeast 25 = .ok (.athrow, 1) := by decide +kernel
theorem dX11_checkFeast_26 : decode cX11_checkFeast 26 = .ok (.return_, 1) := by decide +kernel
theorem dX11_checkNames_0 : decode cX11_checkNames 0 = .ok (.aload_n 0, 1) := by decide +kernel
theorem dX11_checkNames_1 : decode cX11_checkNames 1 = .ok (.getfield 19, 3) := by decide +kernel
theorem dX11_checkNames_4 : decode cX11_checkNames 4 = .ok (.invokevirtual 136, 3) := by decide +kernel
theorem dX11_checkNames_7 : decode cX11_checkNames 7 = .ok (.aload_n 0, 1) := by decide +kernel
theorem dX11_checkNames_8 : decode cX11_checkNames 8 = .ok (.getfield 26, 3) := by decide +kernel
theorem dX11_checkNames_11 : decode cX11_checkNames 11 = .ok (.invokevirtual 187, 3) := by decide +kernel
theorem dX11_checkNames_14 : decode cX11_checkNames 14 = .ok (.invokevirtual 303, 3) := by decide +kernel
theorem dX11_checkNames_17 : decode cX11_checkNames 17 = .ok (.ifCond .eq 14, 3) := by decide +kernel
theorem dX11_checkNames_20 : decode cX11_checkNames 20 = .ok (.new 103, 3) := by decide +kernel
theorem dX11_checkNames_23 : decode cX11_checkNames 23 = .ok (.dup, 1) := by decide +kernel
theorem dX11_checkNames_24 : decode cX11_checkNames 24 = .ok (.ldc_w 307, 3) := by decide +kernel
theorem dX11_checkNames_27 : decode cX11_checkNames 27 = .ok (.invokespecial 107, 3) := by decide +kernel
theorem dX11_checkNames_30 : decode cX11_checkNames 30 = .ok (.athrow, 1) := by decide +kernel
theorem dX11_checkNames_31 : decode cX11_checkNames 31 = .ok (.return_, 1) := by decide +kernel
