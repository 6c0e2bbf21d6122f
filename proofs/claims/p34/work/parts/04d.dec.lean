theorem dL_cell_0 : decode cL_cell 0 = .ok (.iload_n 1, 1) := by decide +kernel
theorem dL_cell_1 : decode cL_cell 1 = .ok (.aload_n 0, 1) := by decide +kernel
theorem dL_cell_2 : decode cL_cell 2 = .ok (.arraylength, 1) := by decide +kernel
theorem dL_cell_3 : decode cL_cell 3 = .ok (.if_icmp .ge 9, 3) := by decide +kernel
theorem dL_cell_6 : decode cL_cell 6 = .ok (.aload_n 0, 1) := by decide +kernel
theorem dL_cell_7 : decode cL_cell 7 = .ok (.iload_n 1, 1) := by decide +kernel
theorem dL_cell_8 : decode cL_cell 8 = .ok (.iaload, 1) := by decide +kernel
theorem dL_cell_9 : decode cL_cell 9 = .ok (.goto 12, 3) := by decide +kernel
theorem dL_cell_12 : decode cL_cell 12 = .ok (.ldc 7, 2) := by decide +kernel
theorem dL_cell_14 : decode cL_cell 14 = .ok (.iload_n 1, 1) := by decide +kernel
theorem dL_cell_15 : decode cL_cell 15 = .ok (.iconst 1, 1) := by decide +kernel
theorem dL_cell_16 : decode cL_cell 16 = .ok (.iadd, 1) := by decide +kernel
theorem dL_cell_17 : decode cL_cell 17 = .ok (.imul, 1) := by decide +kernel
theorem dL_cell_18 : decode cL_cell 18 = .ok (.ldc 8, 2) := by decide +kernel
theorem dL_cell_20 : decode cL_cell 20 = .ok (.iadd, 1) := by decide +kernel
theorem dL_cell_21 : decode cL_cell 21 = .ok (.ireturn, 1) := by decide +kernel
theorem dL_low_0 : decode cL_low 0 = .ok (.iload_n 0, 1) := by decide +kernel
theorem dL_low_1 : decode cL_low 1 = .ok (.ldc 9, 2) := by decide +kernel
theorem dL_low_3 : decode cL_low 3 = .ok (.iand, 1) := by decide +kernel
theorem dL_low_4 : decode cL_low 4 = .ok (.iload_n 1, 1) := by decide +kernel
theorem dL_low_5 : decode cL_low 5 = .ok (.irem, 1) := by decide +kernel
theorem dL_low_6 : decode cL_low 6 = .ok (.ireturn, 1) := by decide +kernel
theorem dL_leap_0 : decode cL_leap 0 = .ok (.iload_n 0, 1) := by decide +kernel
theorem dL_leap_1 : decode cL_leap 1 = .ok (.sipush 400, 3) := by decide +kernel
theorem dL_leap_4 : decode cL_leap 4 = .ok (.irem, 1) := by decide +kernel
theorem dL_leap_5 : decode cL_leap 5 = .ok (.ifCond .eq 16, 3) := by decide +kernel
theorem dL_leap_8 : decode cL_leap 8 = .ok (.iload_n 0, 1) := by decide +kernel
theorem dL_leap_9 : decode cL_leap 9 = .ok (.iconst 4, 1) := by decide +kernel
theorem dL_leap_10 : decode cL_leap 10 = .ok (.irem, 1) := by decide +kernel
theorem dL_leap_11 : decode cL_leap 11 = .ok (.ifCond .ne 14, 3) := by decide +kernel
theorem dL_leap_14 : decode cL_leap 14 = .ok (.iload_n 0, 1) := by decide +kernel
theorem dL_leap_15 : decode cL_leap 15 = .ok (.bipush 100, 2) := by decide +kernel
theorem dL_leap_17 : decode cL_leap 17 = .ok (.irem, 1) := by decide +kernel
theorem dL_leap_18 : decode cL_leap 18 = .ok (.ifCond .le 7, 3) := by decide +kernel
theorem dL_leap_21 : decode cL_leap 21 = .ok (.iconst 1, 1) := by decide +kernel
theorem dL_leap_22 : decode cL_leap 22 = .ok (.goto 4, 3) := by decide +kernel
theorem dL_leap_25 : decode cL_leap 25 = .ok (.iconst 0, 1) := by decide +kernel
theorem dL_leap_26 : decode cL_leap 26 = .ok (.ireturn, 1) := by decide +kernel
theorem dL_month_0 : decode cL_month 0 = .ok (.iload_n 1, 1) := by decide +kernel
theorem dL_month_1 : decode cL_month 1 = .ok (.iconst 2, 1) := by decide +kernel
theorem dL_month_2 : decode cL_month 2 = .ok (.if_icmp .ne 20, 3) := by decide +kernel
theorem dL_month_5 : decode cL_month 5 = .ok (.iload_n 0, 1) := by decide +kernel
theorem dL_month_6 : decode cL_month 6 = .ok (.invokestatic 10, 3) := by decide +kernel
theorem dL_month_9 : decode cL_month 9 = .ok (.ifCond .eq 8, 3) := by decide +kernel
theorem dL_month_12 : decode cL_month 12 = .ok (.bipush 29, 2) := by decide +kernel
theorem dL_month_14 : decode cL_month 14 = .ok (.goto 19, 3) := by decide +kernel
theorem dL_month_17 : decode cL_month 17 = .ok (.bipush 28, 2) := by decide +kernel
theorem dL_month_19 : decode cL_month 19 = .ok (.goto 14, 3) := by decide +kernel
theorem dL_month_22 : decode cL_month 22 = .ok (.bipush 30, 2) := by decide +kernel
theorem dL_month_24 : decode cL_month 24 = .ok (.iload_n 1, 1) := by decide +kernel
theorem dL_month_25 : decode cL_month 25 = .ok (.iload_n 1, 1) := by decide +kernel
theorem dL_month_26 : decode cL_month 26 = .ok (.bipush 8, 2) := by decide +kernel
theorem dL_month_28 : decode cL_month 28 = .ok (.idiv, 1) := by decide +kernel
theorem dL_month_29 : decode cL_month 29 = .ok (.iadd, 1) := by decide +kernel
theorem dL_month_30 : decode cL_month 30 = .ok (.iconst 2, 1) := by decide +kernel
theorem dL_month_31 : decode cL_month 31 = .ok (.irem, 1) := by decide +kernel
theorem dL_month_32 : decode cL_month 32 = .ok (.iadd, 1) := by decide +kernel
theorem dL_month_33 : decode cL_month 33 = .ok (.ireturn, 1) := by decide +kernel
theorem dL_days_0 : decode cL_days 0 = .ok (.iload_n 0, 1) := by decide +kernel
theorem dL_days_1 : decode cL_days 1 = .ok (.invokestatic 10, 3) := by decide +kernel
theorem dL_days_4 : decode cL_days 4 = .ok (.ifCond .eq 9, 3) := by decide +kernel
theorem dL_days_7 : decode cL_days 7 = .ok (.sipush 366, 3) := by decide +kernel
theorem dL_days_10 : decode cL_days 10 = .ok (.goto 6, 3) := by decide +kernel
theorem dL_days_13 : decode cL_days 13 = .ok (.sipush 365, 3) := by decide +kernel
theorem dL_days_16 : decode cL_days 16 = .ok (.ireturn, 1) := by decide +kernel
theorem dL_great_0 : decode cL_great 0 = .ok (.iconst 0, 1) := by decide +kernel
theorem dL_great_1 : decode cL_great 1 = .ok (.istore_n 1, 1) := by decide +kernel
theorem dL_great_2 : decode cL_great 2 = .ok (.iconst 0, 1) := by decide +kernel
theorem dL_great_3 : decode cL_great 3 = .ok (.istore_n 2, 1) := by decide +kernel
theorem dL_great_4 : decode cL_great 4 = .ok (.iload_n 2, 1) := by decide +kernel
theorem dL_great_5 : decode cL_great 5 = .ok (.iload_n 0, 1) := by decide +kernel
theorem dL_great_6 : decode cL_great 6 = .ok (.if_icmp .ge 16, 3) := by decide +kernel
theorem dL_great_9 : decode cL_great 9 = .ok (.iload_n 1, 1) := by decide +kernel
theorem dL_great_10 : decode cL_great 10 = .ok (.iload_n 2, 1) := by decide +kernel
theorem dL_great_11 : decode cL_great 11 = .ok (.invokestatic 16, 3) := by decide +kernel
theorem dL_great_14 : decode cL_great 14 = .ok (.iadd, 1) := by decide +kernel
theorem dL_great_15 : decode cL_great 15 = .ok (.istore_n 1, 1) := by decide +kernel
theorem dL_great_16 : decode cL_great 16 = .ok (.iinc 2 1, 3) := by decide +kernel
theorem dL_great_19 : decode cL_great 19 = .ok (.goto (-15), 3) := by decide +kernel
theorem dL_great_22 : decode cL_great 22 = .ok (.iload_n 1, 1) := by decide +kernel
theorem dL_great_23 : decode cL_great 23 = .ok (.ireturn, 1) := by decide +kernel
theorem dL_day_0 : decode cL_day 0 = .ok (.iload_n 1, 1) := by decide +kernel
theorem dL_day_1 : decode cL_day 1 = .ok (.bipush 100, 2) := by decide +kernel
theorem dL_day_3 : decode cL_day 3 = .ok (.irem, 1) := by decide +kernel
theorem dL_day_4 : decode cL_day 4 = .ok (.iconst 1, 1) := by decide +kernel
theorem dL_day_5 : decode cL_day 5 = .ok (.isub, 1) := by decide +kernel
theorem dL_day_6 : decode cL_day 6 = .ok (.istore_n 2, 1) := by decide +kernel
theorem dL_day_7 : decode cL_day 7 = .ok (.iconst 1, 1) := by decide +kernel
theorem dL_day_8 : decode cL_day 8 = .ok (.istore_n 3, 1) := by decide +kernel
theorem dL_day_9 : decode cL_day 9 = .ok (.iload_n 3, 1) := by decide +kernel
theorem dL_day_10 : decode cL_day 10 = .ok (.iload_n 1, 1) := by decide +kernel
theorem dL_day_11 : decode cL_day 11 = .ok (.bipush 100, 2) := by decide +kernel
theorem dL_day_13 : decode cL_day 13 = .ok (.idiv, 1) := by decide +kernel
theorem dL_day_14 : decode cL_day 14 = .ok (.if_icmp .ge 17, 3) := by decide +kernel
theorem dL_day_17 : decode cL_day 17 = .ok (.iload_n 2, 1) := by decide +kernel
theorem dL_day_18 : decode cL_day 18 = .ok (.iload_n 0, 1) := by decide +kernel
theorem dL_day_19 : decode cL_day 19 = .ok (.iload_n 3, 1) := by decide +kernel
theorem dL_day_20 : decode cL_day 20 = .ok (.invokestatic 20, 3) := by decide +kernel
theorem dL_day_23 : decode cL_day 23 = .ok (.iadd, 1) := by decide +kernel
theorem dL_day_24 : decode cL_day 24 = .ok (.istore_n 2, 1) := by decide +kernel
theorem dL_day_25 : decode cL_day 25 = .ok (.iinc 3 1, 3) := by decide +kernel
theorem dL_day_28 : decode cL_day 28 = .ok (.goto (-19), 3) := by decide +kernel
theorem dL_day_31 : decode cL_day 31 = .ok (.iload_n 1, 1) := by decide +kernel
theorem dL_day_32 : decode cL_day 32 = .ok (.bipush 100, 2) := by decide +kernel
theorem dL_day_34 : decode cL_day 34 = .ok (.irem, 1) := by decide +kernel
theorem dL_day_35 : decode cL_day 35 = .ok (.iload_n 0, 1) := by decide +kernel
theorem dL_day_36 : decode cL_day 36 = .ok (.iload_n 1, 1) := by decide +kernel
theorem dL_day_37 : decode cL_day 37 = .ok (.bipush 100, 2) := by decide +kernel
theorem dL_day_39 : decode cL_day 39 = .ok (.idiv, 1) := by decide +kernel
theorem dL_day_40 : decode cL_day 40 = .ok (.invokestatic 20, 3) := by decide +kernel
theorem dL_day_43 : decode cL_day 43 = .ok (.if_icmp .le 7, 3) := by decide +kernel
theorem dL_day_46 : decode cL_day 46 = .ok (.iconst (-1), 1) := by decide +kernel
theorem dL_day_47 : decode cL_day 47 = .ok (.goto 4, 3) := by decide +kernel
theorem dL_day_50 : decode cL_day 50 = .ok (.iload_n 2, 1) := by decide +kernel
theorem dL_day_51 : decode cL_day 51 = .ok (.ireturn, 1) := by decide +kernel
theorem dL_date_0 : decode cL_date 0 = .ok (.iconst 1, 1) := by decide +kernel
theorem dL_date_1 : decode cL_date 1 = .ok (.istore_n 2, 1) := by decide +kernel
theorem dL_date_2 : decode cL_date 2 = .ok (.iload_n 1, 1) := by decide +kernel
theorem dL_date_3 : decode cL_date 3 = .ok (.istore_n 3, 1) := by decide +kernel
theorem dL_date_4 : decode cL_date 4 = .ok (.iload_n 3, 1) := by decide +kernel
theorem dL_date_5 : decode cL_date 5 = .ok (.iload_n 0, 1) := by decide +kernel
theorem dL_date_6 : decode cL_date 6 = .ok (.iload_n 2, 1) := by decide +kernel
theorem dL_date_7 : decode cL_date 7 = .ok (.invokestatic 20, 3) := by decide +kernel
theorem dL_date_10 : decode cL_date 10 = .ok (.if_icmp .lt 17, 3) := by decide +kernel
theorem dL_date_13 : decode cL_date 13 = .ok (.iload_n 3, 1) := by decide +kernel
theorem dL_date_14 : decode cL_date 14 = .ok (.iload_n 0, 1) := by decide +kernel
theorem dL_date_15 : decode cL_date 15 = .ok (.iload_n 2, 1) := by decide +kernel
theorem dL_date_16 : decode cL_date 16 = .ok (.invokestatic 20, 3) := by decide +kernel
theorem dL_date_19 : decode cL_date 19 = .ok (.isub, 1) := by decide +kernel
theorem dL_date_20 : decode cL_date 20 = .ok (.istore_n 3, 1) := by decide +kernel
theorem dL_date_21 : decode cL_date 21 = .ok (.iinc 2 1, 3) := by decide +kernel
theorem dL_date_24 : decode cL_date 24 = .ok (.goto (-20), 3) := by decide +kernel
theorem dL_date_27 : decode cL_date 27 = .ok (.bipush 100, 2) := by decide +kernel
theorem dL_date_29 : decode cL_date 29 = .ok (.iload_n 2, 1) := by decide +kernel
theorem dL_date_30 : decode cL_date 30 = .ok (.imul, 1) := by decide +kernel
theorem dL_date_31 : decode cL_date 31 = .ok (.iload_n 3, 1) := by decide +kernel
theorem dL_date_32 : decode cL_date 32 = .ok (.iadd, 1) := by decide +kernel
theorem dL_date_33 : decode cL_date 33 = .ok (.iconst 1, 1) := by decide +kernel
theorem dL_date_34 : decode cL_date 34 = .ok (.iadd, 1) := by decide +kernel
theorem dL_date_35 : decode cL_date 35 = .ok (.ireturn, 1) := by decide +kernel
theorem dL_isNew_0 : decode cL_isNew 0 = .ok (.iload_n 1, 1) := by decide +kernel
theorem dL_isNew_1 : decode cL_isNew 1 = .ok (.ifCond .ne 9, 3) := by decide +kernel
theorem dL_isNew_4 : decode cL_isNew 4 = .ok (.sipush 945, 3) := by decide +kernel
theorem dL_isNew_7 : decode cL_isNew 7 = .ok (.goto 6, 3) := by decide +kernel
theorem dL_isNew_10 : decode cL_isNew 10 = .ok (.sipush 6940, 3) := by decide +kernel
theorem dL_isNew_13 : decode cL_isNew 13 = .ok (.istore_n 2, 1) := by decide +kernel
theorem dL_isNew_14 : decode cL_isNew 14 = .ok (.iload_n 1, 1) := by decide +kernel
theorem dL_isNew_15 : decode cL_isNew 15 = .ok (.ifCond .ne 8, 3) := by decide +kernel
theorem dL_isNew_18 : decode cL_isNew 18 = .ok (.bipush 32, 2) := by decide +kernel
theorem dL_isNew_20 : decode cL_isNew 20 = .ok (.goto 6, 3) := by decide +kernel
theorem dL_isNew_23 : decode cL_isNew 23 = .ok (.sipush 235, 3) := by decide +kernel
theorem dL_isNew_26 : decode cL_isNew 26 = .ok (.istore_n 3, 1) := by decide +kernel
theorem dL_isNew_27 : decode cL_isNew 27 = .ok (.iload_n 0, 1) := by decide +kernel
theorem dL_isNew_28 : decode cL_isNew 28 = .ok (.iload_n 1, 1) := by decide +kernel
theorem dL_isNew_29 : decode cL_isNew 29 = .ok (.ifCond .ne 7, 3) := by decide +kernel
theorem dL_isNew_32 : decode cL_isNew 32 = .ok (.iconst 5, 1) := by decide +kernel
theorem dL_isNew_33 : decode cL_isNew 33 = .ok (.goto 5, 3) := by decide +kernel
theorem dL_isNew_36 : decode cL_isNew 36 = .ok (.bipush 6, 2) := by decide +kernel
theorem dL_isNew_38 : decode cL_isNew 38 = .ok (.isub, 1) := by decide +kernel
theorem dL_isNew_39 : decode cL_isNew 39 = .ok (.iload_n 2, 1) := by decide +kernel
theorem dL_isNew_40 : decode cL_isNew 40 = .ok (.iadd, 1) := by decide +kernel
theorem dL_isNew_41 : decode cL_isNew 41 = .ok (.istore 4, 2) := by decide +kernel
theorem dL_isNew_43 : decode cL_isNew 43 = .ok (.iload 4, 2) := by decide +kernel
theorem dL_isNew_45 : decode cL_isNew 45 = .ok (.iload_n 3, 1) := by decide +kernel
theorem dL_isNew_46 : decode cL_isNew 46 = .ok (.imul, 1) := by decide +kernel
theorem dL_isNew_47 : decode cL_isNew 47 = .ok (.iload_n 2, 1) := by decide +kernel
theorem dL_isNew_48 : decode cL_isNew 48 = .ok (.iadd, 1) := by decide +kernel
theorem dL_isNew_49 : decode cL_isNew 49 = .ok (.iconst 1, 1) := by decide +kernel
theorem dL_isNew_50 : decode cL_isNew 50 = .ok (.isub, 1) := by decide +kernel
theorem dL_isNew_51 : decode cL_isNew 51 = .ok (.iload_n 2, 1) := by decide +kernel
theorem dL_isNew_52 : decode cL_isNew 52 = .ok (.idiv, 1) := by decide +kernel
theorem dL_isNew_53 : decode cL_isNew 53 = .ok (.istore 5, 2) := by decide +kernel
theorem dL_isNew_55 : decode cL_isNew 55 = .ok (.iload_n 2, 1) := by decide +kernel
theorem dL_isNew_56 : decode cL_isNew 56 = .ok (.iload 5, 2) := by decide +kernel
theorem dL_isNew_58 : decode cL_isNew 58 = .ok (.imul, 1) := by decide +kernel
theorem dL_isNew_59 : decode cL_isNew 59 = .ok (.iload_n 3, 1) := by decide +kernel
theorem dL_isNew_60 : decode cL_isNew 60 = .ok (.idiv, 1) := by decide +kernel
theorem dL_isNew_61 : decode cL_isNew 61 = .ok (.iload 4, 2) := by decide +kernel
theorem dL_isNew_63 : decode cL_isNew 63 = .ok (.if_icmp .ne 7, 3) := by decide +kernel
theorem dL_isNew_66 : decode cL_isNew 66 = .ok (.iconst 1, 1) := by decide +kernel
theorem dL_isNew_67 : decode cL_isNew 67 = .ok (.goto 4, 3) := by decide +kernel
theorem dL_isNew_70 : decode cL_isNew 70 = .ok (.iconst 0, 1) := by decide +kernel
theorem dL_isNew_71 : decode cL_isNew 71 = .ok (.ireturn, 1) := by decide +kernel
theorem dL_age_0 : decode cL_age 0 = .ok (.iconst 0, 1) := by decide +kernel
theorem dL_age_1 : decode cL_age 1 = .ok (.istore_n 2, 1) := by decide +kernel
theorem dL_age_2 : decode cL_age 2 = .ok (.iload_n 0, 1) := by decide +kernel
theorem dL_age_3 : decode cL_age 3 = .ok (.iload_n 2, 1) := by decide +kernel
theorem dL_age_4 : decode cL_age 4 = .ok (.isub, 1) := by decide +kernel
theorem dL_age_5 : decode cL_age 5 = .ok (.iload_n 1, 1) := by decide +kernel
theorem dL_age_6 : decode cL_age 6 = .ok (.invokestatic 24, 3) := by decide +kernel
theorem dL_age_9 : decode cL_age 9 = .ok (.ifCond .ne 9, 3) := by decide +kernel
theorem dL_age_12 : decode cL_age 12 = .ok (.iinc 2 1, 3) := by decide +kernel
theorem dL_age_15 : decode cL_age 15 = .ok (.goto (-13), 3) := by decide +kernel
theorem dL_age_18 : decode cL_age 18 = .ok (.iload_n 2, 1) := by decide +kernel
theorem dL_age_19 : decode cL_age 19 = .ok (.ireturn, 1) := by decide +kernel
theorem dL_in_0 : decode cL_in 0 = .ok (.iload_n 1, 1) := by decide +kernel
theorem dL_in_1 : decode cL_in 1 = .ok (.ifCond .lt 11, 3) := by decide +kernel
theorem dL_in_4 : decode cL_in 4 = .ok (.iload_n 1, 1) := by decide +kernel
theorem dL_in_5 : decode cL_in 5 = .ok (.iload_n 0, 1) := by decide +kernel
theorem dL_in_6 : decode cL_in 6 = .ok (.invokestatic 16, 3) := by decide +kernel
theorem dL_in_9 : decode cL_in 9 = .ok (.if_icmp .lt 7, 3) := by decide +kernel
theorem dL_in_12 : decode cL_in 12 = .ok (.iconst (-1), 1) := by decide +kernel
theorem dL_in_13 : decode cL_in 13 = .ok (.goto 4, 3) := by decide +kernel
theorem dL_in_16 : decode cL_in 16 = .ok (.iload_n 1, 1) := by decide +kernel
theorem dL_in_17 : decode cL_in 17 = .ok (.ireturn, 1) := by decide +kernel
theorem dL_begin_0 : decode cL_begin 0 = .ok (.iload_n 1, 1) := by decide +kernel
theorem dL_begin_1 : decode cL_begin 1 = .ok (.sipush 10000, 3) := by decide +kernel
theorem dL_begin_4 : decode cL_begin 4 = .ok (.idiv, 1) := by decide +kernel
theorem dL_begin_5 : decode cL_begin 5 = .ok (.istore_n 3, 1) := by decide +kernel
theorem dL_begin_6 : decode cL_begin 6 = .ok (.iload_n 1, 1) := by decide +kernel
theorem dL_begin_7 : decode cL_begin 7 = .ok (.sipush 10000, 3) := by decide +kernel
theorem dL_begin_10 : decode cL_begin 10 = .ok (.irem, 1) := by decide +kernel
theorem dL_begin_11 : decode cL_begin 11 = .ok (.istore 4, 2) := by decide +kernel
theorem dL_begin_13 : decode cL_begin 13 = .ok (.iload_n 3, 1) := by decide +kernel
theorem dL_begin_14 : decode cL_begin 14 = .ok (.iconst 1, 1) := by decide +kernel
theorem dL_begin_15 : decode cL_begin 15 = .ok (.if_icmp .ne 10, 3) := by decide +kernel
theorem dL_begin_18 : decode cL_begin 18 = .ok (.iload_n 0, 1) := by decide +kernel
theorem dL_begin_19 : decode cL_begin 19 = .ok (.iload 4, 2) := by decide +kernel
theorem dL_begin_21 : decode cL_begin 21 = .ok (.invokestatic 28, 3) := by decide +kernel
theorem dL_begin_24 : decode cL_begin 24 = .ok (.ireturn, 1) := by decide +kernel
theorem dL_begin_25 : decode cL_begin 25 = .ok (.iload_n 3, 1) := by decide +kernel
theorem dL_begin_26 : decode cL_begin 26 = .ok (.iconst 4, 1) := by decide +kernel
theorem dL_begin_27 : decode cL_begin 27 = .ok (.if_icmp .ne 8, 3) := by decide +kernel
theorem dL_begin_30 : decode cL_begin 30 = .ok (.aload_n 2, 1) := by decide +kernel
theorem dL_begin_31 : decode cL_begin 31 = .ok (.iload 4, 2) := by decide +kernel
theorem dL_begin_33 : decode cL_begin 33 = .ok (.iaload, 1) := by decide +kernel
theorem dL_begin_34 : decode cL_begin 34 = .ok (.ireturn, 1) := by decide +kernel
theorem dL_begin_35 : decode cL_begin 35 = .ok (.iconst 0, 1) := by decide +kernel
theorem dL_begin_36 : decode cL_begin 36 = .ok (.istore 5, 2) := by decide +kernel
theorem dL_begin_38 : decode cL_begin 38 = .ok (.iconst (-1), 1) := by decide +kernel
theorem dL_begin_39 : decode cL_begin 39 = .ok (.istore 6, 2) := by decide +kernel
theorem dL_begin_41 : decode cL_begin 41 = .ok (.iconst 1, 1) := by decide +kernel
theorem dL_begin_42 : decode cL_begin 42 = .ok (.istore 7, 2) := by decide +kernel
theorem dL_begin_44 : decode cL_begin 44 = .ok (.iload 7, 2) := by decide +kernel
theorem dL_begin_46 : decode cL_begin 46 = .ok (.iload_n 0, 1) := by decide +kernel
theorem dL_begin_47 : decode cL_begin 47 = .ok (.iload 4, 2) := by decide +kernel
theorem dL_begin_49 : decode cL_begin 49 = .ok (.bipush 100, 2) := by decide +kernel
theorem dL_begin_51 : decode cL_begin 51 = .ok (.irem, 1) := by decide +kernel
theorem dL_begin_52 : decode cL_begin 52 = .ok (.invokestatic 20, 3) := by decide +kernel
theorem dL_begin_55 : decode cL_begin 55 = .ok (.if_icmp .gt 76, 3) := by decide +kernel
theorem dL_begin_58 : decode cL_begin 58 = .ok (.iload_n 0, 1) := by decide +kernel
theorem dL_begin_59 : decode cL_begin 59 = .ok (.iload 4, 2) := by decide +kernel
theorem dL_begin_61 : decode cL_begin 61 = .ok (.bipush 100, 2) := by decide +kernel
theorem dL_begin_63 : decode cL_begin 63 = .ok (.irem, 1) := by decide +kernel
theorem dL_begin_64 : decode cL_begin 64 = .ok (.bipush 100, 2) := by decide +kernel
theorem dL_begin_66 : decode cL_begin 66 = .ok (.imul, 1) := by decide +kernel
theorem dL_begin_67 : decode cL_begin 67 = .ok (.iload 7, 2) := by decide +kernel
theorem dL_begin_69 : decode cL_begin 69 = .ok (.iadd, 1) := by decide +kernel
theorem dL_begin_70 : decode cL_begin 70 = .ok (.invokestatic 28, 3) := by decide +kernel
theorem dL_begin_73 : decode cL_begin 73 = .ok (.istore 8, 2) := by decide +kernel
theorem dL_begin_75 : decode cL_begin 75 = .ok (.iload_n 0, 1) := by decide +kernel
theorem dL_begin_76 : decode cL_begin 76 = .ok (.invokestatic 31, 3) := by decide +kernel
theorem dL_begin_79 : decode cL_begin 79 = .ok (.iload 8, 2) := by decide +kernel
theorem dL_begin_81 : decode cL_begin 81 = .ok (.iadd, 1) := by decide +kernel
theorem dL_begin_82 : decode cL_begin 82 = .ok (.bipush 6, 2) := by decide +kernel
theorem dL_begin_84 : decode cL_begin 84 = .ok (.iadd, 1) := by decide +kernel
theorem dL_begin_85 : decode cL_begin 85 = .ok (.bipush 7, 2) := by decide +kernel
theorem dL_begin_87 : decode cL_begin 87 = .ok (.irem, 1) := by decide +kernel
theorem dL_begin_88 : decode cL_begin 88 = .ok (.iload 4, 2) := by decide +kernel
theorem dL_begin_90 : decode cL_begin 90 = .ok (.bipush 100, 2) := by decide +kernel
theorem dL_begin_92 : decode cL_begin 92 = .ok (.idiv, 1) := by decide +kernel
theorem dL_begin_93 : decode cL_begin 93 = .ok (.bipush 10, 2) := by decide +kernel
theorem dL_begin_95 : decode cL_begin 95 = .ok (.irem, 1) := by decide +kernel
theorem dL_begin_96 : decode cL_begin 96 = .ok (.if_icmp .eq 6, 3) := by decide +kernel
theorem dL_begin_99 : decode cL_begin 99 = .ok (.goto 26, 3) := by decide +kernel
theorem dL_begin_102 : decode cL_begin 102 = .ok (.iinc 5 1, 3) := by decide +kernel
theorem dL_begin_105 : decode cL_begin 105 = .ok (.iload_n 3, 1) := by decide +kernel
theorem dL_begin_106 : decode cL_begin 106 = .ok (.iconst 3, 1) := by decide +kernel
theorem dL_begin_107 : decode cL_begin 107 = .ok (.if_icmp .eq 14, 3) := by decide +kernel
theorem dL_begin_110 : decode cL_begin 110 = .ok (.iload 5, 2) := by decide +kernel
theorem dL_begin_112 : decode cL_begin 112 = .ok (.iload 4, 2) := by decide +kernel
theorem dL_begin_114 : decode cL_begin 114 = .ok (.sipush 1000, 3) := by decide +kernel
theorem dL_begin_117 : decode cL_begin 117 = .ok (.idiv, 1) := by decide +kernel
theorem dL_begin_118 : decode cL_begin 118 = .ok (.if_icmp .ne 7, 3) := by decide +kernel
theorem dL_begin_121 : decode cL_begin 121 = .ok (.iload 8, 2) := by decide +kernel
theorem dL_begin_123 : decode cL_begin 123 = .ok (.istore 6, 2) := by decide +kernel
theorem dL_begin_125 : decode cL_begin 125 = .ok (.iinc 7 1, 3) := by decide +kernel
theorem dL_begin_128 : decode cL_begin 128 = .ok (.goto (-84), 3) := by decide +kernel
theorem dL_begin_131 : decode cL_begin 131 = .ok (.iload 6, 2) := by decide +kernel
theorem dL_begin_133 : decode cL_begin 133 = .ok (.ireturn, 1) := by decide +kernel
theorem dL_walk_0 : decode cL_walk 0 = .ok (.iload_n 3, 1) := by decide +kernel
theorem dL_walk_1 : decode cL_walk 1 = .ok (.sipush 1000, 3) := by decide +kernel
theorem dL_walk_4 : decode cL_walk 4 = .ok (.idiv, 1) := by decide +kernel
theorem dL_walk_5 : decode cL_walk 5 = .ok (.istore 4, 2) := by decide +kernel
theorem dL_walk_7 : decode cL_walk 7 = .ok (.iload_n 3, 1) := by decide +kernel
theorem dL_walk_8 : decode cL_walk 8 = .ok (.sipush 1000, 3) := by decide +kernel
theorem dL_walk_11 : decode cL_walk 11 = .ok (.irem, 1) := by decide +kernel
theorem dL_walk_12 : decode cL_walk 12 = .ok (.istore 5, 2) := by decide +kernel
theorem dL_walk_14 : decode cL_walk 14 = .ok (.iload_n 2, 1) := by decide +kernel
theorem dL_walk_15 : decode cL_walk 15 = .ok (.ifCond .lt 10, 3) := by decide +kernel
theorem dL_walk_18 : decode cL_walk 18 = .ok (.iload 4, 2) := by decide +kernel
theorem dL_walk_20 : decode cL_walk 20 = .ok (.bipush 8, 2) := by decide +kernel
theorem dL_walk_22 : decode cL_walk 22 = .ok (.if_icmp .ne 5, 3) := by decide +kernel
theorem dL_walk_25 : decode cL_walk 25 = .ok (.iconst (-1), 1) := by decide +kernel
theorem dL_walk_26 : decode cL_walk 26 = .ok (.ireturn, 1) := by decide +kernel
theorem dL_walk_27 : decode cL_walk 27 = .ok (.iload 4, 2) := by decide +kernel
theorem dL_walk_29 : decode cL_walk 29 = .ok (.ifCond .ne 5, 3) := by decide +kernel
theorem dL_walk_32 : decode cL_walk 32 = .ok (.iload_n 2, 1) := by decide +kernel
theorem dL_walk_33 : decode cL_walk 33 = .ok (.ireturn, 1) := by decide +kernel
theorem dL_walk_34 : decode cL_walk 34 = .ok (.iload 4, 2) := by decide +kernel
theorem dL_walk_36 : decode cL_walk 36 = .ok (.iconst 1, 1) := by decide +kernel
theorem dL_walk_37 : decode cL_walk 37 = .ok (.if_icmp .ne 16, 3) := by decide +kernel
theorem dL_walk_40 : decode cL_walk 40 = .ok (.iload_n 0, 1) := by decide +kernel
theorem dL_walk_41 : decode cL_walk 41 = .ok (.iload_n 2, 1) := by decide +kernel
theorem dL_walk_42 : decode cL_walk 42 = .ok (.iload 5, 2) := by decide +kernel
theorem dL_walk_44 : decode cL_walk 44 = .ok (.iadd, 1) := by decide +kernel
theorem dL_walk_45 : decode cL_walk 45 = .ok (.sipush 400, 3) := by decide +kernel
theorem dL_walk_48 : decode cL_walk 48 = .ok (.isub, 1) := by decide +kernel
theorem dL_walk_49 : decode cL_walk 49 = .ok (.invokestatic 34, 3) := by decide +kernel
theorem dL_walk_52 : decode cL_walk 52 = .ok (.ireturn, 1) := by decide +kernel
theorem dL_walk_53 : decode cL_walk 53 = .ok (.iload_n 0, 1) := by decide +kernel
theorem dL_walk_54 : decode cL_walk 54 = .ok (.invokestatic 31, 3) := by decide +kernel
theorem dL_walk_57 : decode cL_walk 57 = .ok (.iload_n 2, 1) := by decide +kernel
theorem dL_walk_58 : decode cL_walk 58 = .ok (.iadd, 1) := by decide +kernel
theorem dL_walk_59 : decode cL_walk 59 = .ok (.istore 6, 2) := by decide +kernel
theorem dL_walk_61 : decode cL_walk 61 = .ok (.iload 4, 2) := by decide +kernel
theorem dL_walk_63 : decode cL_walk 63 = .ok (.iconst 3, 1) := by decide +kernel
theorem dL_walk_64 : decode cL_walk 64 = .ok (.if_icmp .eq 9, 3) := by decide +kernel
theorem dL_walk_67 : decode cL_walk 67 = .ok (.iload 4, 2) := by decide +kernel
theorem dL_walk_69 : decode cL_walk 69 = .ok (.iconst 5, 1) := by decide +kernel
theorem dL_walk_70 : decode cL_walk 70 = .ok (.if_icmp .ne 7, 3) := by decide +kernel
theorem dL_walk_73 : decode cL_walk 73 = .ok (.iconst (-1), 1) := by decide +kernel
theorem dL_walk_74 : decode cL_walk 74 = .ok (.goto 4, 3) := by decide +kernel
theorem dL_walk_77 : decode cL_walk 77 = .ok (.iconst 1, 1) := by decide +kernel
theorem dL_walk_78 : decode cL_walk 78 = .ok (.istore 7, 2) := by decide +kernel
theorem dL_walk_80 : decode cL_walk 80 = .ok (.iload 4, 2) := by decide +kernel
theorem dL_walk_82 : decode cL_walk 82 = .ok (.iconst 2, 1) := by decide +kernel
theorem dL_walk_83 : decode cL_walk 83 = .ok (.if_icmp .eq 9, 3) := by decide +kernel
theorem dL_walk_86 : decode cL_walk 86 = .ok (.iload 4, 2) := by decide +kernel
theorem dL_walk_88 : decode cL_walk 88 = .ok (.iconst 3, 1) := by decide +kernel
theorem dL_walk_89 : decode cL_walk 89 = .ok (.if_icmp .ne 10, 3) := by decide +kernel
theorem dL_walk_92 : decode cL_walk 92 = .ok (.iload 6, 2) := by decide +kernel
theorem dL_walk_94 : decode cL_walk 94 = .ok (.iload 7, 2) := by decide +kernel
theorem dL_walk_96 : decode cL_walk 96 = .ok (.iadd, 1) := by decide +kernel
theorem dL_walk_97 : decode cL_walk 97 = .ok (.istore 6, 2) := by decide +kernel
theorem dL_walk_99 : decode cL_walk 99 = .ok (.iload 4, 2) := by decide +kernel
theorem dL_walk_101 : decode cL_walk 101 = .ok (.bipush 6, 2) := by decide +kernel
theorem dL_walk_103 : decode cL_walk 103 = .ok (.if_icmp .ge 19, 3) := by decide +kernel
theorem dL_walk_106 : decode cL_walk 106 = .ok (.iload 6, 2) := by decide +kernel
theorem dL_walk_108 : decode cL_walk 108 = .ok (.bipush 13, 2) := by decide +kernel
theorem dL_walk_110 : decode cL_walk 110 = .ok (.iadd, 1) := by decide +kernel
theorem dL_walk_111 : decode cL_walk 111 = .ok (.bipush 7, 2) := by decide +kernel
theorem dL_walk_113 : decode cL_walk 113 = .ok (.irem, 1) := by decide +kernel
theorem dL_walk_114 : decode cL_walk 114 = .ok (.iload 5, 2) := by decide +kernel
theorem dL_walk_116 : decode cL_walk 116 = .ok (.if_icmp .eq 38, 3) := by decide +kernel
theorem dL_walk_119 : decode cL_walk 119 = .ok (.goto 25, 3) := by decide +kernel
theorem dL_walk_122 : decode cL_walk 122 = .ok (.iload 6, 2) := by decide +kernel
theorem dL_walk_124 : decode cL_walk 124 = .ok (.iload_n 1, 1) := by decide +kernel
theorem dL_walk_125 : decode cL_walk 125 = .ok (.invokestatic 37, 3) := by decide +kernel
theorem dL_walk_128 : decode cL_walk 128 = .ok (.iload 4, 2) := by decide +kernel
theorem dL_walk_130 : decode cL_walk 130 = .ok (.bipush 6, 2) := by decide +kernel
theorem dL_walk_132 : decode cL_walk 132 = .ok (.if_icmp .ne 8, 3) := by decide +kernel
theorem dL_walk_135 : decode cL_walk 135 = .ok (.bipush 14, 2) := by decide +kernel
theorem dL_walk_137 : decode cL_walk 137 = .ok (.goto 4, 3) := by decide +kernel
theorem dL_walk_140 : decode cL_walk 140 = .ok (.iconst 0, 1) := by decide +kernel
theorem dL_walk_141 : decode cL_walk 141 = .ok (.if_icmp .eq 13, 3) := by decide +kernel
theorem dL_walk_144 : decode cL_walk 144 = .ok (.iload 6, 2) := by decide +kernel
theorem dL_walk_146 : decode cL_walk 146 = .ok (.iload 7, 2) := by decide +kernel
theorem dL_walk_148 : decode cL_walk 148 = .ok (.iadd, 1) := by decide +kernel
theorem dL_walk_149 : decode cL_walk 149 = .ok (.istore 6, 2) := by decide +kernel
theorem dL_walk_151 : decode cL_walk 151 = .ok (.goto (-52), 3) := by decide +kernel
theorem dL_walk_154 : decode cL_walk 154 = .ok (.iload_n 0, 1) := by decide +kernel
theorem dL_walk_155 : decode cL_walk 155 = .ok (.iload 6, 2) := by decide +kernel
theorem dL_walk_157 : decode cL_walk 157 = .ok (.iload_n 0, 1) := by decide +kernel
theorem dL_walk_158 : decode cL_walk 158 = .ok (.invokestatic 31, 3) := by decide +kernel
theorem dL_walk_161 : decode cL_walk 161 = .ok (.isub, 1) := by decide +kernel
theorem dL_walk_162 : decode cL_walk 162 = .ok (.invokestatic 34, 3) := by decide +kernel
theorem dL_walk_165 : decode cL_walk 165 = .ok (.ireturn, 1) := by decide +kernel
theorem dL_holds_0 : decode cL_holds 0 = .ok (.iload_n 2, 1) := by decide +kernel
theorem dL_holds_1 : decode cL_holds 1 = .ok (.sipush 10000, 3) := by decide +kernel
theorem dL_holds_4 : decode cL_holds 4 = .ok (.idiv, 1) := by decide +kernel
theorem dL_holds_5 : decode cL_holds 5 = .ok (.istore 4, 2) := by decide +kernel
theorem dL_holds_7 : decode cL_holds 7 = .ok (.iload_n 2, 1) := by decide +kernel
theorem dL_holds_8 : decode cL_holds 8 = .ok (.sipush 10000, 3) := by decide +kernel
theorem dL_holds_11 : decode cL_holds 11 = .ok (.irem, 1) := by decide +kernel
theorem dL_holds_12 : decode cL_holds 12 = .ok (.istore 5, 2) := by decide +kernel
theorem dL_holds_14 : decode cL_holds 14 = .ok (.iload 4, 2) := by decide +kernel
theorem dL_holds_16 : decode cL_holds 16 = .ok (.bipush 14, 2) := by decide +kernel
theorem dL_holds_18 : decode cL_holds 18 = .ok (.if_icmp .ne 8, 3) := by decide +kernel
theorem dL_holds_21 : decode cL_holds 21 = .ok (.iload_n 0, 1) := by decide +kernel
theorem dL_holds_22 : decode cL_holds 22 = .ok (.invokestatic 10, 3) := by decide +kernel
theorem dL_holds_25 : decode cL_holds 25 = .ok (.ireturn, 1) := by decide +kernel
theorem dL_holds_26 : decode cL_holds 26 = .ok (.iload_n 1, 1) := by decide +kernel
theorem dL_holds_27 : decode cL_holds 27 = .ok (.ifCond .ge 5, 3) := by decide +kernel
theorem dL_holds_30 : decode cL_holds 30 = .ok (.iconst 0, 1) := by decide +kernel
theorem dL_holds_31 : decode cL_holds 31 = .ok (.ireturn, 1) := by decide +kernel
theorem dL_holds_32 : decode cL_holds 32 = .ok (.iload 4, 2) := by decide +kernel
theorem dL_holds_34 : decode cL_holds 34 = .ok (.bipush 13, 2) := by decide +kernel
theorem dL_holds_36 : decode cL_holds 36 = .ok (.if_icmp .ne 28, 3) := by decide +kernel
theorem dL_holds_39 : decode cL_holds 39 = .ok (.iload_n 0, 1) := by decide +kernel
theorem dL_holds_40 : decode cL_holds 40 = .ok (.invokestatic 31, 3) := by decide +kernel
theorem dL_holds_43 : decode cL_holds 43 = .ok (.iload_n 1, 1) := by decide +kernel
theorem dL_holds_44 : decode cL_holds 44 = .ok (.iadd, 1) := by decide +kernel
theorem dL_holds_45 : decode cL_holds 45 = .ok (.bipush 6, 2) := by decide +kernel
theorem dL_holds_47 : decode cL_holds 47 = .ok (.iadd, 1) := by decide +kernel
theorem dL_holds_48 : decode cL_holds 48 = .ok (.bipush 7, 2) := by decide +kernel
theorem dL_holds_50 : decode cL_holds 50 = .ok (.irem, 1) := by decide +kernel
theorem dL_holds_51 : decode cL_holds 51 = .ok (.iload 5, 2) := by decide +kernel
theorem dL_holds_53 : decode cL_holds 53 = .ok (.if_icmp .ne 7, 3) := by decide +kernel
theorem dL_holds_56 : decode cL_holds 56 = .ok (.iconst 1, 1) := by decide +kernel
theorem dL_holds_57 : decode cL_holds 57 = .ok (.goto 45, 3) := by decide +kernel
theorem dL_holds_60 : decode cL_holds 60 = .ok (.iconst 0, 1) := by decide +kernel
theorem dL_holds_61 : decode cL_holds 61 = .ok (.goto 41, 3) := by decide +kernel
theorem dL_holds_64 : decode cL_holds 64 = .ok (.iload 4, 2) := by decide +kernel
theorem dL_holds_66 : decode cL_holds 66 = .ok (.bipush 15, 2) := by decide +kernel
theorem dL_holds_68 : decode cL_holds 68 = .ok (.if_icmp .ne 19, 3) := by decide +kernel
theorem dL_holds_71 : decode cL_holds 71 = .ok (.aload_n 3, 1) := by decide +kernel
theorem dL_holds_72 : decode cL_holds 72 = .ok (.iload 5, 2) := by decide +kernel
theorem dL_holds_74 : decode cL_holds 74 = .ok (.iaload, 1) := by decide +kernel
theorem dL_holds_75 : decode cL_holds 75 = .ok (.iload_n 1, 1) := by decide +kernel
theorem dL_holds_76 : decode cL_holds 76 = .ok (.if_icmp .ne 7, 3) := by decide +kernel
theorem dL_holds_79 : decode cL_holds 79 = .ok (.iconst 1, 1) := by decide +kernel
theorem dL_holds_80 : decode cL_holds 80 = .ok (.goto 22, 3) := by decide +kernel
theorem dL_holds_83 : decode cL_holds 83 = .ok (.iconst 0, 1) := by decide +kernel
theorem dL_holds_84 : decode cL_holds 84 = .ok (.goto 18, 3) := by decide +kernel
theorem dL_holds_87 : decode cL_holds 87 = .ok (.iload_n 0, 1) := by decide +kernel
theorem dL_holds_88 : decode cL_holds 88 = .ok (.iload_n 1, 1) := by decide +kernel
theorem dL_holds_89 : decode cL_holds 89 = .ok (.invokestatic 40, 3) := by decide +kernel
theorem dL_holds_92 : decode cL_holds 92 = .ok (.iload 5, 2) := by decide +kernel
theorem dL_holds_94 : decode cL_holds 94 = .ok (.if_icmp .ge 7, 3) := by decide +kernel
theorem dL_holds_97 : decode cL_holds 97 = .ok (.iconst 1, 1) := by decide +kernel
theorem dL_holds_98 : decode cL_holds 98 = .ok (.goto 4, 3) := by decide +kernel
theorem dL_holds_101 : decode cL_holds 101 = .ok (.iconst 0, 1) := by decide +kernel
theorem dL_holds_102 : decode cL_holds 102 = .ok (.ireturn, 1) := by decide +kernel
theorem dL_price_0 : decode cL_price 0 = .ok (.iload_n 0, 1) := by decide +kernel
theorem dL_price_1 : decode cL_price 1 = .ok (.sipush 1000, 3) := by decide +kernel
theorem dL_price_4 : decode cL_price 4 = .ok (.idiv, 1) := by decide +kernel
theorem dL_price_5 : decode cL_price 5 = .ok (.istore_n 1, 1) := by decide +kernel
theorem dL_price_6 : decode cL_price 6 = .ok (.iload_n 1, 1) := by decide +kernel
theorem dL_price_7 : decode cL_price 7 = .ok (.ifCond .eq 10, 3) := by decide +kernel
theorem dL_price_10 : decode cL_price 10 = .ok (.iload_n 0, 1) := by decide +kernel
theorem dL_price_11 : decode cL_price 11 = .ok (.sipush 1400, 3) := by decide +kernel
theorem dL_price_14 : decode cL_price 14 = .ok (.if_icmp .ne 7, 3) := by decide +kernel
theorem dL_price_17 : decode cL_price 17 = .ok (.iconst 0, 1) := by decide +kernel
theorem dL_price_18 : decode cL_price 18 = .ok (.goto 30, 3) := by decide +kernel
theorem dL_price_21 : decode cL_price 21 = .ok (.iload_n 1, 1) := by decide +kernel
theorem dL_price_22 : decode cL_price 22 = .ok (.iconst 1, 1) := by decide +kernel
theorem dL_price_23 : decode cL_price 23 = .ok (.if_icmp .eq 9, 3) := by decide +kernel
theorem dL_price_26 : decode cL_price 26 = .ok (.iload_n 1, 1) := by decide +kernel
theorem dL_price_27 : decode cL_price 27 = .ok (.bipush 8, 2) := by decide +kernel
theorem dL_price_29 : decode cL_price 29 = .ok (.if_icmp .ne 7, 3) := by decide +kernel
theorem dL_price_32 : decode cL_price 32 = .ok (.iconst 1, 1) := by decide +kernel
theorem dL_price_33 : decode cL_price 33 = .ok (.goto 15, 3) := by decide +kernel
theorem dL_price_36 : decode cL_price 36 = .ok (.iload_n 1, 1) := by decide +kernel
theorem dL_price_37 : decode cL_price 37 = .ok (.bipush 6, 2) := by decide +kernel
theorem dL_price_39 : decode cL_price 39 = .ok (.if_icmp .ge 7, 3) := by decide +kernel
theorem dL_price_42 : decode cL_price 42 = .ok (.iconst 2, 1) := by decide +kernel
theorem dL_price_43 : decode cL_price 43 = .ok (.goto 5, 3) := by decide +kernel
theorem dL_price_46 : decode cL_price 46 = .ok (.bipush 6, 2) := by decide +kernel
theorem dL_price_48 : decode cL_price 48 = .ok (.ireturn, 1) := by decide +kernel
theorem dL_bents_0 : decode cL_bents 0 = .ok (.iconst 0, 1) := by decide +kernel
theorem dL_bents_1 : decode cL_bents 1 = .ok (.istore 7, 2) := by decide +kernel
theorem dL_bents_3 : decode cL_bents 3 = .ok (.iload 7, 2) := by decide +kernel
theorem dL_bents_5 : decode cL_bents 5 = .ok (.aload_n 2, 1) := by decide +kernel
theorem dL_bents_6 : decode cL_bents 6 = .ok (.iconst 0, 1) := by decide +kernel
theorem dL_bents_7 : decode cL_bents 7 = .ok (.iaload, 1) := by decide +kernel
theorem dL_bents_8 : decode cL_bents 8 = .ok (.if_icmp .ge 392, 3) := by decide +kernel
theorem dL_bents_11 : decode cL_bents 11 = .ok (.iload_n 3, 1) := by decide +kernel
theorem dL_bents_12 : decode cL_bents 12 = .ok (.aload_n 0, 1) := by decide +kernel
theorem dL_bents_13 : decode cL_bents 13 = .ok (.bipush 6, 2) := by decide +kernel
theorem dL_bents_15 : decode cL_bents 15 = .ok (.iload 7, 2) := by decide +kernel
theorem dL_bents_17 : decode cL_bents 17 = .ok (.imul, 1) := by decide +kernel
theorem dL_bents_18 : decode cL_bents 18 = .ok (.iaload, 1) := by decide +kernel
theorem dL_bents_19 : decode cL_bents 19 = .ok (.aload 5, 2) := by decide +kernel
theorem dL_bents_21 : decode cL_bents 21 = .ok (.invokestatic 43, 3) := by decide +kernel
theorem dL_bents_24 : decode cL_bents 24 = .ok (.istore 8, 2) := by decide +kernel
theorem dL_bents_26 : decode cL_bents 26 = .ok (.aload_n 0, 1) := by decide +kernel
theorem dL_bents_27 : decode cL_bents 27 = .ok (.bipush 6, 2) := by decide +kernel
theorem dL_bents_29 : decode cL_bents 29 = .ok (.iload 7, 2) := by decide +kernel
theorem dL_bents_31 : decode cL_bents 31 = .ok (.imul, 1) := by decide +kernel
theorem dL_bents_32 : decode cL_bents 32 = .ok (.iconst 1, 1) := by decide +kernel
theorem dL_bents_33 : decode cL_bents 33 = .ok (.iadd, 1) := by decide +kernel
theorem dL_bents_34 : decode cL_bents 34 = .ok (.iaload, 1) := by decide +kernel
theorem dL_bents_35 : decode cL_bents 35 = .ok (.istore 9, 2) := by decide +kernel
theorem dL_bents_37 : decode cL_bents 37 = .ok (.aload_n 0, 1) := by decide +kernel
theorem dL_bents_38 : decode cL_bents 38 = .ok (.bipush 6, 2) := by decide +kernel
theorem dL_bents_40 : decode cL_bents 40 = .ok (.iload 7, 2) := by decide +kernel
theorem dL_bents_42 : decode cL_bents 42 = .ok (.imul, 1) := by decide +kernel
theorem dL_bents_43 : decode cL_bents 43 = .ok (.iaload, 1) := by decide +kernel
theorem dL_bents_44 : decode cL_bents 44 = .ok (.sipush 10000, 3) := by decide +kernel
theorem dL_bents_47 : decode cL_bents 47 = .ok (.idiv, 1) := by decide +kernel
theorem dL_bents_48 : decode cL_bents 48 = .ok (.iconst 1, 1) := by decide +kernel
theorem dL_bents_49 : decode cL_bents 49 = .ok (.if_icmp .ne 7, 3) := by decide +kernel
theorem dL_bents_52 : decode cL_bents 52 = .ok (.iconst 1, 1) := by decide +kernel
theorem dL_bents_53 : decode cL_bents 53 = .ok (.goto 23, 3) := by decide +kernel
theorem dL_bents_56 : decode cL_bents 56 = .ok (.aload_n 0, 1) := by decide +kernel
theorem dL_bents_57 : decode cL_bents 57 = .ok (.bipush 6, 2) := by decide +kernel
theorem dL_bents_59 : decode cL_bents 59 = .ok (.iload 7, 2) := by decide +kernel
theorem dL_bents_61 : decode cL_bents 61 = .ok (.imul, 1) := by decide +kernel
theorem dL_bents_62 : decode cL_bents 62 = .ok (.iaload, 1) := by decide +kernel
theorem dL_bents_63 : decode cL_bents 63 = .ok (.sipush 10000, 3) := by decide +kernel
theorem dL_bents_66 : decode cL_bents 66 = .ok (.idiv, 1) := by decide +kernel
theorem dL_bents_67 : decode cL_bents 67 = .ok (.iconst 4, 1) := by decide +kernel
theorem dL_bents_68 : decode cL_bents 68 = .ok (.if_icmp .ne 7, 3) := by decide +kernel
theorem dL_bents_71 : decode cL_bents 71 = .ok (.iconst 2, 1) := by decide +kernel
theorem dL_bents_72 : decode cL_bents 72 = .ok (.goto 4, 3) := by decide +kernel
theorem dL_bents_75 : decode cL_bents 75 = .ok (.iconst 3, 1) := by decide +kernel
theorem dL_bents_76 : decode cL_bents 76 = .ok (.istore 10, 2) := by decide +kernel
theorem dL_bents_78 : decode cL_bents 78 = .ok (.aload_n 0, 1) := by decide +kernel
theorem dL_bents_79 : decode cL_bents 79 = .ok (.bipush 6, 2) := by decide +kernel
theorem dL_bents_81 : decode cL_bents 81 = .ok (.iload 7, 2) := by decide +kernel
theorem dL_bents_83 : decode cL_bents 83 = .ok (.imul, 1) := by decide +kernel
theorem dL_bents_84 : decode cL_bents 84 = .ok (.iconst 2, 1) := by decide +kernel
theorem dL_bents_85 : decode cL_bents 85 = .ok (.iadd, 1) := by decide +kernel
theorem dL_bents_86 : decode cL_bents 86 = .ok (.iaload, 1) := by decide +kernel
theorem dL_bents_87 : decode cL_bents 87 = .ok (.istore 11, 2) := by decide +kernel
theorem dL_bents_89 : decode cL_bents 89 = .ok (.iload 9, 2) := by decide +kernel
theorem dL_bents_91 : decode cL_bents 91 = .ok (.ifCond .eq 149, 3) := by decide +kernel
theorem dL_bents_94 : decode cL_bents 94 = .ok (.iload_n 3, 1) := by decide +kernel
theorem dL_bents_95 : decode cL_bents 95 = .ok (.iload 8, 2) := by decide +kernel
theorem dL_bents_97 : decode cL_bents 97 = .ok (.iload 9, 2) := by decide +kernel
theorem dL_bents_99 : decode cL_bents 99 = .ok (.ifCond .ge 9, 3) := by decide +kernel
theorem dL_bents_102 : decode cL_bents 102 = .ok (.iload 9, 2) := by decide +kernel
theorem dL_bents_104 : decode cL_bents 104 = .ok (.ineg, 1) := by decide +kernel
theorem dL_bents_105 : decode cL_bents 105 = .ok (.goto 5, 3) := by decide +kernel
theorem dL_bents_108 : decode cL_bents 108 = .ok (.iload 9, 2) := by decide +kernel
theorem dL_bents_110 : decode cL_bents 110 = .ok (.aload 5, 2) := by decide +kernel
theorem dL_bents_112 : decode cL_bents 112 = .ok (.invokestatic 47, 3) := by decide +kernel
theorem dL_bents_115 : decode cL_bents 115 = .ok (.iload 9, 2) := by decide +kernel
theorem dL_bents_117 : decode cL_bents 117 = .ok (.ifCond .le 7, 3) := by decide +kernel
theorem dL_bents_120 : decode cL_bents 120 = .ok (.iconst 1, 1) := by decide +kernel
theorem dL_bents_121 : decode cL_bents 121 = .ok (.goto 4, 3) := by decide +kernel
theorem dL_bents_124 : decode cL_bents 124 = .ok (.iconst 0, 1) := by decide +kernel
theorem dL_bents_125 : decode cL_bents 125 = .ok (.if_icmp .ne 7, 3) := by decide +kernel
theorem dL_bents_128 : decode cL_bents 128 = .ok (.iconst 1, 1) := by decide +kernel
theorem dL_bents_129 : decode cL_bents 129 = .ok (.goto 4, 3) := by decide +kernel
theorem dL_bents_132 : decode cL_bents 132 = .ok (.iconst 0, 1) := by decide +kernel
theorem dL_bents_133 : decode cL_bents 133 = .ok (.istore 12, 2) := by decide +kernel
theorem dL_bents_135 : decode cL_bents 135 = .ok (.iload 10, 2) := by decide +kernel
theorem dL_bents_137 : decode cL_bents 137 = .ok (.iconst 1, 1) := by decide +kernel
theorem dL_bents_138 : decode cL_bents 138 = .ok (.iload 9, 2) := by decide +kernel
theorem dL_bents_140 : decode cL_bents 140 = .ok (.ifCond .ge 7, 3) := by decide +kernel
theorem dL_bents_143 : decode cL_bents 143 = .ok (.iconst 1, 1) := by decide +kernel
theorem dL_bents_144 : decode cL_bents 144 = .ok (.goto 4, 3) := by decide +kernel
theorem dL_bents_147 : decode cL_bents 147 = .ok (.iconst 0, 1) := by decide +kernel
theorem dL_bents_148 : decode cL_bents 148 = .ok (.iadd, 1) := by decide +kernel
theorem dL_bents_149 : decode cL_bents 149 = .ok (.iload 9, 2) := by decide +kernel
theorem dL_bents_151 : decode cL_bents 151 = .ok (.ifCond .ge 9, 3) := by decide +kernel
theorem dL_bents_154 : decode cL_bents 154 = .ok (.iload 9, 2) := by decide +kernel
theorem dL_bents_156 : decode cL_bents 156 = .ok (.ineg, 1) := by decide +kernel
theorem dL_bents_157 : decode cL_bents 157 = .ok (.goto 5, 3) := by decide +kernel
theorem dL_bents_160 : decode cL_bents 160 = .ok (.iload 9, 2) := by decide +kernel
theorem dL_bents_162 : decode cL_bents 162 = .ok (.sipush 10000, 3) := by decide +kernel
theorem dL_bents_165 : decode cL_bents 165 = .ok (.idiv, 1) := by decide +kernel
theorem dL_bents_166 : decode cL_bents 166 = .ok (.bipush 15, 2) := by decide +kernel
theorem dL_bents_168 : decode cL_bents 168 = .ok (.if_icmp .ne 7, 3) := by decide +kernel
theorem dL_bents_171 : decode cL_bents 171 = .ok (.iconst 2, 1) := by decide +kernel
theorem dL_bents_172 : decode cL_bents 172 = .ok (.goto 4, 3) := by decide +kernel
theorem dL_bents_175 : decode cL_bents 175 = .ok (.iconst 1, 1) := by decide +kernel
theorem dL_bents_176 : decode cL_bents 176 = .ok (.iadd, 1) := by decide +kernel
theorem dL_bents_177 : decode cL_bents 177 = .ok (.iload 12, 2) := by decide +kernel
theorem dL_bents_179 : decode cL_bents 179 = .ok (.ifCond .eq 19, 3) := by decide +kernel
theorem dL_bents_182 : decode cL_bents 182 = .ok (.aload_n 0, 1) := by decide +kernel
theorem dL_bents_183 : decode cL_bents 183 = .ok (.bipush 6, 2) := by decide +kernel
theorem dL_bents_185 : decode cL_bents 185 = .ok (.iload 7, 2) := by decide +kernel
theorem dL_bents_187 : decode cL_bents 187 = .ok (.imul, 1) := by decide +kernel
theorem dL_bents_188 : decode cL_bents 188 = .ok (.iconst 3, 1) := by decide +kernel
theorem dL_bents_189 : decode cL_bents 189 = .ok (.iadd, 1) := by decide +kernel
theorem dL_bents_190 : decode cL_bents 190 = .ok (.iaload, 1) := by decide +kernel
theorem dL_bents_191 : decode cL_bents 191 = .ok (.ifCond .lt 7, 3) := by decide +kernel
theorem dL_bents_194 : decode cL_bents 194 = .ok (.iconst 1, 1) := by decide +kernel
theorem dL_bents_195 : decode cL_bents 195 = .ok (.goto 4, 3) := by decide +kernel
theorem dL_bents_198 : decode cL_bents 198 = .ok (.iconst 0, 1) := by decide +kernel
theorem dL_bents_199 : decode cL_bents 199 = .ok (.iadd, 1) := by decide +kernel
theorem dL_bents_200 : decode cL_bents 200 = .ok (.iadd, 1) := by decide +kernel
theorem dL_bents_201 : decode cL_bents 201 = .ok (.istore 10, 2) := by decide +kernel
theorem dL_bents_203 : decode cL_bents 203 = .ok (.iload 12, 2) := by decide +kernel
theorem dL_bents_205 : decode cL_bents 205 = .ok (.ifCond .eq 8, 3) := by decide +kernel
theorem dL_bents_208 : decode cL_bents 208 = .ok (.iload 11, 2) := by decide +kernel
theorem dL_bents_210 : decode cL_bents 210 = .ok (.goto 28, 3) := by decide +kernel
theorem dL_bents_213 : decode cL_bents 213 = .ok (.aload_n 0, 1) := by decide +kernel
theorem dL_bents_214 : decode cL_bents 214 = .ok (.bipush 6, 2) := by decide +kernel
theorem dL_bents_216 : decode cL_bents 216 = .ok (.iload 7, 2) := by decide +kernel
theorem dL_bents_218 : decode cL_bents 218 = .ok (.imul, 1) := by decide +kernel
theorem dL_bents_219 : decode cL_bents 219 = .ok (.iconst 3, 1) := by decide +kernel
theorem dL_bents_220 : decode cL_bents 220 = .ok (.iadd, 1) := by decide +kernel
theorem dL_bents_221 : decode cL_bents 221 = .ok (.iaload, 1) := by decide +kernel
theorem dL_bents_222 : decode cL_bents 222 = .ok (.ifCond .ge 7, 3) := by decide +kernel
theorem dL_bents_225 : decode cL_bents 225 = .ok (.iconst 0, 1) := by decide +kernel
theorem dL_bents_226 : decode cL_bents 226 = .ok (.goto 12, 3) := by decide +kernel
theorem dL_bents_229 : decode cL_bents 229 = .ok (.aload_n 0, 1) := by decide +kernel
theorem dL_bents_230 : decode cL_bents 230 = .ok (.bipush 6, 2) := by decide +kernel
theorem dL_bents_232 : decode cL_bents 232 = .ok (.iload 7, 2) := by decide +kernel
theorem dL_bents_234 : decode cL_bents 234 = .ok (.imul, 1) := by decide +kernel
theorem dL_bents_235 : decode cL_bents 235 = .ok (.iconst 3, 1) := by decide +kernel
theorem dL_bents_236 : decode cL_bents 236 = .ok (.iadd, 1) := by decide +kernel
theorem dL_bents_237 : decode cL_bents 237 = .ok (.iaload, 1) := by decide +kernel
theorem dL_bents_238 : decode cL_bents 238 = .ok (.istore 11, 2) := by decide +kernel
theorem dL_bents_240 : decode cL_bents 240 = .ok (.iconst 0, 1) := by decide +kernel
theorem dL_bents_241 : decode cL_bents 241 = .ok (.istore 12, 2) := by decide +kernel
theorem dL_bents_243 : decode cL_bents 243 = .ok (.iload 12, 2) := by decide +kernel
theorem dL_bents_245 : decode cL_bents 245 = .ok (.iconst 3, 1) := by decide +kernel
theorem dL_bents_246 : decode cL_bents 246 = .ok (.if_icmp .ge 55, 3) := by decide +kernel
theorem dL_bents_249 : decode cL_bents 249 = .ok (.iload 12, 2) := by decide +kernel
theorem dL_bents_251 : decode cL_bents 251 = .ok (.ifCond .ne 8, 3) := by decide +kernel
theorem dL_bents_254 : decode cL_bents 254 = .ok (.iload 11, 2) := by decide +kernel
theorem dL_bents_256 : decode cL_bents 256 = .ok (.goto 15, 3) := by decide +kernel
theorem dL_bents_259 : decode cL_bents 259 = .ok (.aload_n 0, 1) := by decide +kernel
theorem dL_bents_260 : decode cL_bents 260 = .ok (.bipush 6, 2) := by decide +kernel
theorem dL_bents_262 : decode cL_bents 262 = .ok (.iload 7, 2) := by decide +kernel
theorem dL_bents_264 : decode cL_bents 264 = .ok (.imul, 1) := by decide +kernel
theorem dL_bents_265 : decode cL_bents 265 = .ok (.iconst 3, 1) := by decide +kernel
theorem dL_bents_266 : decode cL_bents 266 = .ok (.iadd, 1) := by decide +kernel
theorem dL_bents_267 : decode cL_bents 267 = .ok (.iload 12, 2) := by decide +kernel
theorem dL_bents_269 : decode cL_bents 269 = .ok (.iadd, 1) := by decide +kernel
theorem dL_bents_270 : decode cL_bents 270 = .ok (.iaload, 1) := by decide +kernel
theorem dL_bents_271 : decode cL_bents 271 = .ok (.istore 13, 2) := by decide +kernel
theorem dL_bents_273 : decode cL_bents 273 = .ok (.iload_n 3, 1) := by decide +kernel
theorem dL_bents_274 : decode cL_bents 274 = .ok (.iload 4, 2) := by decide +kernel
theorem dL_bents_276 : decode cL_bents 276 = .ok (.iload 8, 2) := by decide +kernel
theorem dL_bents_278 : decode cL_bents 278 = .ok (.iload 13, 2) := by decide +kernel
theorem dL_bents_280 : decode cL_bents 280 = .ok (.invokestatic 51, 3) := by decide +kernel
theorem dL_bents_283 : decode cL_bents 283 = .ok (.istore 8, 2) := by decide +kernel
theorem dL_bents_285 : decode cL_bents 285 = .ok (.iload 10, 2) := by decide +kernel
theorem dL_bents_287 : decode cL_bents 287 = .ok (.iload 13, 2) := by decide +kernel
theorem dL_bents_289 : decode cL_bents 289 = .ok (.invokestatic 55, 3) := by decide +kernel
theorem dL_bents_292 : decode cL_bents 292 = .ok (.iadd, 1) := by decide +kernel
theorem dL_bents_293 : decode cL_bents 293 = .ok (.istore 10, 2) := by decide +kernel
theorem dL_bents_295 : decode cL_bents 295 = .ok (.iinc 12 1, 3) := by decide +kernel
theorem dL_bents_298 : decode cL_bents 298 = .ok (.goto (-55), 3) := by decide +kernel
theorem dL_bents_301 : decode cL_bents 301 = .ok (.iconst 0, 1) := by decide +kernel
theorem dL_bents_302 : decode cL_bents 302 = .ok (.istore 12, 2) := by decide +kernel
theorem dL_bents_304 : decode cL_bents 304 = .ok (.iload 12, 2) := by decide +kernel
theorem dL_bents_306 : decode cL_bents 306 = .ok (.aload_n 2, 1) := by decide +kernel
theorem dL_bents_307 : decode cL_bents 307 = .ok (.iconst 1, 1) := by decide +kernel
theorem dL_bents_308 : decode cL_bents 308 = .ok (.iaload, 1) := by decide +kernel
theorem dL_bents_309 : decode cL_bents 309 = .ok (.if_icmp .ge 71, 3) := by decide +kernel
theorem dL_bents_312 : decode cL_bents 312 = .ok (.aload_n 1, 1) := by decide +kernel
theorem dL_bents_313 : decode cL_bents 313 = .ok (.iconst 3, 1) := by decide +kernel
theorem dL_bents_314 : decode cL_bents 314 = .ok (.iload 12, 2) := by decide +kernel
theorem dL_bents_316 : decode cL_bents 316 = .ok (.imul, 1) := by decide +kernel
theorem dL_bents_317 : decode cL_bents 317 = .ok (.iaload, 1) := by decide +kernel
theorem dL_bents_318 : decode cL_bents 318 = .ok (.iload 7, 2) := by decide +kernel
theorem dL_bents_320 : decode cL_bents 320 = .ok (.if_icmp .ne 54, 3) := by decide +kernel
theorem dL_bents_323 : decode cL_bents 323 = .ok (.aload_n 1, 1) := by decide +kernel
theorem dL_bents_324 : decode cL_bents 324 = .ok (.iconst 3, 1) := by decide +kernel
theorem dL_bents_325 : decode cL_bents 325 = .ok (.iload 12, 2) := by decide +kernel
theorem dL_bents_327 : decode cL_bents 327 = .ok (.imul, 1) := by decide +kernel
theorem dL_bents_328 : decode cL_bents 328 = .ok (.iconst 1, 1) := by decide +kernel
theorem dL_bents_329 : decode cL_bents 329 = .ok (.iadd, 1) := by decide +kernel
theorem dL_bents_330 : decode cL_bents 330 = .ok (.iaload, 1) := by decide +kernel
theorem dL_bents_331 : decode cL_bents 331 = .ok (.iload_n 3, 1) := by decide +kernel
theorem dL_bents_332 : decode cL_bents 332 = .ok (.if_icmp .ne 42, 3) := by decide +kernel
theorem dL_bents_335 : decode cL_bents 335 = .ok (.iload 8, 2) := by decide +kernel
theorem dL_bents_337 : decode cL_bents 337 = .ok (.ifCond .lt 37, 3) := by decide +kernel
theorem dL_bents_340 : decode cL_bents 340 = .ok (.aload_n 1, 1) := by decide +kernel
theorem dL_bents_341 : decode cL_bents 341 = .ok (.iconst 3, 1) := by decide +kernel
theorem dL_bents_342 : decode cL_bents 342 = .ok (.iload 12, 2) := by decide +kernel
theorem dL_bents_344 : decode cL_bents 344 = .ok (.imul, 1) := by decide +kernel
theorem dL_bents_345 : decode cL_bents 345 = .ok (.iconst 2, 1) := by decide +kernel
theorem dL_bents_346 : decode cL_bents 346 = .ok (.iadd, 1) := by decide +kernel
theorem dL_bents_347 : decode cL_bents 347 = .ok (.iaload, 1) := by decide +kernel
theorem dL_bents_348 : decode cL_bents 348 = .ok (.bipush 99, 2) := by decide +kernel
theorem dL_bents_350 : decode cL_bents 350 = .ok (.if_icmp .ne 7, 3) := by decide +kernel
theorem dL_bents_353 : decode cL_bents 353 = .ok (.iconst (-1), 1) := by decide +kernel
theorem dL_bents_354 : decode cL_bents 354 = .ok (.goto 18, 3) := by decide +kernel
theorem dL_bents_357 : decode cL_bents 357 = .ok (.iload_n 3, 1) := by decide +kernel
theorem dL_bents_358 : decode cL_bents 358 = .ok (.iload 8, 2) := by decide +kernel
theorem dL_bents_360 : decode cL_bents 360 = .ok (.aload_n 1, 1) := by decide +kernel
theorem dL_bents_361 : decode cL_bents 361 = .ok (.iconst 3, 1) := by decide +kernel
theorem dL_bents_362 : decode cL_bents 362 = .ok (.iload 12, 2) := by decide +kernel
theorem dL_bents_364 : decode cL_bents 364 = .ok (.imul, 1) := by decide +kernel
theorem dL_bents_365 : decode cL_bents 365 = .ok (.iconst 2, 1) := by decide +kernel
theorem dL_bents_366 : decode cL_bents 366 = .ok (.iadd, 1) := by decide +kernel
theorem dL_bents_367 : decode cL_bents 367 = .ok (.iaload, 1) := by decide +kernel
theorem dL_bents_368 : decode cL_bents 368 = .ok (.iadd, 1) := by decide +kernel
theorem dL_bents_369 : decode cL_bents 369 = .ok (.invokestatic 34, 3) := by decide +kernel
theorem dL_bents_372 : decode cL_bents 372 = .ok (.istore 8, 2) := by decide +kernel
theorem dL_bents_374 : decode cL_bents 374 = .ok (.iinc 12 1, 3) := by decide +kernel
theorem dL_bents_377 : decode cL_bents 377 = .ok (.goto (-73), 3) := by decide +kernel
theorem dL_bents_380 : decode cL_bents 380 = .ok (.aload 5, 2) := by decide +kernel
theorem dL_bents_382 : decode cL_bents 382 = .ok (.iload 7, 2) := by decide +kernel
theorem dL_bents_384 : decode cL_bents 384 = .ok (.iload 8, 2) := by decide +kernel
theorem dL_bents_386 : decode cL_bents 386 = .ok (.iastore, 1) := by decide +kernel
theorem dL_bents_387 : decode cL_bents 387 = .ok (.aload 6, 2) := by decide +kernel
theorem dL_bents_389 : decode cL_bents 389 = .ok (.iload 7, 2) := by decide +kernel
theorem dL_bents_391 : decode cL_bents 391 = .ok (.iload 10, 2) := by decide +kernel
theorem dL_bents_393 : decode cL_bents 393 = .ok (.iastore, 1) := by decide +kernel
theorem dL_bents_394 : decode cL_bents 394 = .ok (.iinc 7 1, 3) := by decide +kernel
theorem dL_bents_397 : decode cL_bents 397 = .ok (.goto (-394), 3) := by decide +kernel
theorem dL_bents_400 : decode cL_bents 400 = .ok (.return_, 1) := by decide +kernel
theorem dL_place_0 : decode cL_place 0 = .ok (.iconst 0, 1) := by decide +kernel
theorem dL_place_1 : decode cL_place 1 = .ok (.istore 5, 2) := by decide +kernel
theorem dL_place_3 : decode cL_place 3 = .ok (.iload 5, 2) := by decide +kernel
theorem dL_place_5 : decode cL_place 5 = .ok (.aload_n 1, 1) := by decide +kernel
theorem dL_place_6 : decode cL_place 6 = .ok (.iconst 0, 1) := by decide +kernel
theorem dL_place_7 : decode cL_place 7 = .ok (.iaload, 1) := by decide +kernel
theorem dL_place_8 : decode cL_place 8 = .ok (.if_icmp .ge 15, 3) := by decide +kernel
theorem dL_place_11 : decode cL_place 11 = .ok (.aload 4, 2) := by decide +kernel
theorem dL_place_13 : decode cL_place 13 = .ok (.iload 5, 2) := by decide +kernel
theorem dL_place_15 : decode cL_place 15 = .ok (.iconst (-1), 1) := by decide +kernel
theorem dL_place_16 : decode cL_place 16 = .ok (.iastore, 1) := by decide +kernel
theorem dL_place_17 : decode cL_place 17 = .ok (.iinc 5 1, 3) := by decide +kernel
theorem dL_place_20 : decode cL_place 20 = .ok (.goto (-17), 3) := by decide +kernel
theorem dL_place_23 : decode cL_place 23 = .ok (.bipush 9, 2) := by decide +kernel
theorem dL_place_25 : decode cL_place 25 = .ok (.istore 5, 2) := by decide +kernel
theorem dL_place_27 : decode cL_place 27 = .ok (.iload 5, 2) := by decide +kernel
theorem dL_place_29 : decode cL_place 29 = .ok (.ifCond .lt 149, 3) := by decide +kernel
theorem dL_place_32 : decode cL_place 32 = .ok (.iconst 0, 1) := by decide +kernel
theorem dL_place_33 : decode cL_place 33 = .ok (.istore 6, 2) := by decide +kernel
theorem dL_place_35 : decode cL_place 35 = .ok (.iload 6, 2) := by decide +kernel
theorem dL_place_37 : decode cL_place 37 = .ok (.aload_n 1, 1) := by decide +kernel
theorem dL_place_38 : decode cL_place 38 = .ok (.iconst 0, 1) := by decide +kernel
theorem dL_place_39 : decode cL_place 39 = .ok (.iaload, 1) := by decide +kernel
theorem dL_place_40 : decode cL_place 40 = .ok (.if_icmp .ge 132, 3) := by decide +kernel
theorem dL_place_43 : decode cL_place 43 = .ok (.aload_n 0, 1) := by decide +kernel
theorem dL_place_44 : decode cL_place 44 = .ok (.iload 6, 2) := by decide +kernel
theorem dL_place_46 : decode cL_place 46 = .ok (.iaload, 1) := by decide +kernel
theorem dL_place_47 : decode cL_place 47 = .ok (.iconst 2, 1) := by decide +kernel
theorem dL_place_48 : decode cL_place 48 = .ok (.idiv, 1) := by decide +kernel
theorem dL_place_49 : decode cL_place 49 = .ok (.iload 5, 2) := by decide +kernel
theorem dL_place_51 : decode cL_place 51 = .ok (.if_icmp .ne 115, 3) := by decide +kernel
theorem dL_place_54 : decode cL_place 54 = .ok (.aload_n 3, 1) := by decide +kernel
theorem dL_place_55 : decode cL_place 55 = .ok (.iload 6, 2) := by decide +kernel
theorem dL_place_57 : decode cL_place 57 = .ok (.iaload, 1) := by decide +kernel
theorem dL_place_58 : decode cL_place 58 = .ok (.ifCond .ge 6, 3) := by decide +kernel
theorem dL_place_61 : decode cL_place 61 = .ok (.goto 105, 3) := by decide +kernel
theorem dL_place_64 : decode cL_place 64 = .ok (.aload_n 3, 1) := by decide +kernel
theorem dL_place_65 : decode cL_place 65 = .ok (.iload 6, 2) := by decide +kernel
theorem dL_place_67 : decode cL_place 67 = .ok (.iaload, 1) := by decide +kernel
theorem dL_place_68 : decode cL_place 68 = .ok (.istore 7, 2) := by decide +kernel
theorem dL_place_70 : decode cL_place 70 = .ok (.iload 7, 2) := by decide +kernel
theorem dL_place_72 : decode cL_place 72 = .ok (.aload_n 3, 1) := by decide +kernel
theorem dL_place_73 : decode cL_place 73 = .ok (.iload 6, 2) := by decide +kernel
theorem dL_place_75 : decode cL_place 75 = .ok (.iaload, 1) := by decide +kernel
theorem dL_place_76 : decode cL_place 76 = .ok (.bipush 20, 2) := by decide +kernel
theorem dL_place_78 : decode cL_place 78 = .ok (.aload_n 0, 1) := by decide +kernel
theorem dL_place_79 : decode cL_place 79 = .ok (.iload 6, 2) := by decide +kernel
theorem dL_place_81 : decode cL_place 81 = .ok (.iaload, 1) := by decide +kernel
theorem dL_place_82 : decode cL_place 82 = .ok (.iconst 2, 1) := by decide +kernel
theorem dL_place_83 : decode cL_place 83 = .ok (.irem, 1) := by decide +kernel
theorem dL_place_84 : decode cL_place 84 = .ok (.imul, 1) := by decide +kernel
theorem dL_place_85 : decode cL_place 85 = .ok (.iadd, 1) := by decide +kernel
theorem dL_place_86 : decode cL_place 86 = .ok (.if_icmp .gt 80, 3) := by decide +kernel
theorem dL_place_89 : decode cL_place 89 = .ok (.iload 7, 2) := by decide +kernel
theorem dL_place_91 : decode cL_place 91 = .ok (.iload_n 2, 1) := by decide +kernel
theorem dL_place_92 : decode cL_place 92 = .ok (.invokestatic 16, 3) := by decide +kernel
theorem dL_place_95 : decode cL_place 95 = .ok (.if_icmp .ge 71, 3) := by decide +kernel
theorem dL_place_98 : decode cL_place 98 = .ok (.aload 4, 2) := by decide +kernel
theorem dL_place_100 : decode cL_place 100 = .ok (.iload 6, 2) := by decide +kernel
theorem dL_place_102 : decode cL_place 102 = .ok (.iaload, 1) := by decide +kernel
theorem dL_place_103 : decode cL_place 103 = .ok (.ifCond .ge 63, 3) := by decide +kernel
theorem dL_place_106 : decode cL_place 106 = .ok (.iconst 1, 1) := by decide +kernel
theorem dL_place_107 : decode cL_place 107 = .ok (.istore 8, 2) := by decide +kernel
theorem dL_place_109 : decode cL_place 109 = .ok (.iconst 0, 1) := by decide +kernel
theorem dL_place_110 : decode cL_place 110 = .ok (.istore 9, 2) := by decide +kernel
theorem dL_place_112 : decode cL_place 112 = .ok (.iload 9, 2) := by decide +kernel
theorem dL_place_114 : decode cL_place 114 = .ok (.aload_n 1, 1) := by decide +kernel
theorem dL_place_115 : decode cL_place 115 = .ok (.iconst 0, 1) := by decide +kernel
theorem dL_place_116 : decode cL_place 116 = .ok (.iaload, 1) := by decide +kernel
theorem dL_place_117 : decode cL_place 117 = .ok (.if_icmp .ge 31, 3) := by decide +kernel
theorem dL_place_120 : decode cL_place 120 = .ok (.iload 8, 2) := by decide +kernel
theorem dL_place_122 : decode cL_place 122 = .ok (.ifCond .eq 17, 3) := by decide +kernel
theorem dL_place_125 : decode cL_place 125 = .ok (.aload 4, 2) := by decide +kernel
theorem dL_place_127 : decode cL_place 127 = .ok (.iload 9, 2) := by decide +kernel
theorem dL_place_129 : decode cL_place 129 = .ok (.iaload, 1) := by decide +kernel
theorem dL_place_130 : decode cL_place 130 = .ok (.iload 7, 2) := by decide +kernel
theorem dL_place_132 : decode cL_place 132 = .ok (.if_icmp .eq 7, 3) := by decide +kernel
theorem dL_place_135 : decode cL_place 135 = .ok (.iconst 1, 1) := by decide +kernel
theorem dL_place_136 : decode cL_place 136 = .ok (.goto 4, 3) := by decide +kernel
theorem dL_place_139 : decode cL_place 139 = .ok (.iconst 0, 1) := by decide +kernel
theorem dL_place_140 : decode cL_place 140 = .ok (.istore 8, 2) := by decide +kernel
theorem dL_place_142 : decode cL_place 142 = .ok (.iinc 9 1, 3) := by decide +kernel
theorem dL_place_145 : decode cL_place 145 = .ok (.goto (-33), 3) := by decide +kernel
theorem dL_place_148 : decode cL_place 148 = .ok (.iload 8, 2) := by decide +kernel
theorem dL_place_150 : decode cL_place 150 = .ok (.ifCond .eq 10, 3) := by decide +kernel
theorem dL_place_153 : decode cL_place 153 = .ok (.aload 4, 2) := by decide +kernel
theorem dL_place_155 : decode cL_place 155 = .ok (.iload 6, 2) := by decide +kernel
theorem dL_place_157 : decode cL_place 157 = .ok (.iload 7, 2) := by decide +kernel
theorem dL_place_159 : decode cL_place 159 = .ok (.iastore, 1) := by decide +kernel
theorem dL_place_160 : decode cL_place 160 = .ok (.iinc 7 1, 3) := by decide +kernel
theorem dL_place_163 : decode cL_place 163 = .ok (.goto (-93), 3) := by decide +kernel
theorem dL_place_166 : decode cL_place 166 = .ok (.iinc 6 1, 3) := by decide +kernel
theorem dL_place_169 : decode cL_place 169 = .ok (.goto (-134), 3) := by decide +kernel
theorem dL_place_172 : decode cL_place 172 = .ok (.iinc 5 (-1), 3) := by decide +kernel
theorem dL_place_175 : decode cL_place 175 = .ok (.goto (-148), 3) := by decide +kernel
theorem dL_place_178 : decode cL_place 178 = .ok (.return_, 1) := by decide +kernel
theorem dL_clashes_0 : decode cL_clashes 0 = .ok (.iconst 0, 1) := by decide +kernel
theorem dL_clashes_1 : decode cL_clashes 1 = .ok (.istore_n 2, 1) := by decide +kernel
theorem dL_clashes_2 : decode cL_clashes 2 = .ok (.iconst 0, 1) := by decide +kernel
theorem dL_clashes_3 : decode cL_clashes 3 = .ok (.istore_n 3, 1) := by decide +kernel
theorem dL_clashes_4 : decode cL_clashes 4 = .ok (.iload_n 3, 1) := by decide +kernel
theorem dL_clashes_5 : decode cL_clashes 5 = .ok (.aload_n 0, 1) := by decide +kernel
theorem dL_clashes_6 : decode cL_clashes 6 = .ok (.iconst 0, 1) := by decide +kernel
theorem dL_clashes_7 : decode cL_clashes 7 = .ok (.iaload, 1) := by decide +kernel
theorem dL_clashes_8 : decode cL_clashes 8 = .ok (.if_icmp .ge 48, 3) := by decide +kernel
theorem dL_clashes_11 : decode cL_clashes 11 = .ok (.iconst 0, 1) := by decide +kernel
theorem dL_clashes_12 : decode cL_clashes 12 = .ok (.istore 4, 2) := by decide +kernel
theorem dL_clashes_14 : decode cL_clashes 14 = .ok (.iload 4, 2) := by decide +kernel
theorem dL_clashes_16 : decode cL_clashes 16 = .ok (.iload_n 3, 1) := by decide +kernel
theorem dL_clashes_17 : decode cL_clashes 17 = .ok (.if_icmp .ge 33, 3) := by decide +kernel
theorem dL_clashes_20 : decode cL_clashes 20 = .ok (.iload_n 2, 1) := by decide +kernel
theorem dL_clashes_21 : decode cL_clashes 21 = .ok (.aload_n 1, 1) := by decide +kernel
theorem dL_clashes_22 : decode cL_clashes 22 = .ok (.iload_n 3, 1) := by decide +kernel
theorem dL_clashes_23 : decode cL_clashes 23 = .ok (.iaload, 1) := by decide +kernel
theorem dL_clashes_24 : decode cL_clashes 24 = .ok (.ifCond .lt 17, 3) := by decide +kernel
theorem dL_clashes_27 : decode cL_clashes 27 = .ok (.aload_n 1, 1) := by decide +kernel
theorem dL_clashes_28 : decode cL_clashes 28 = .ok (.iload_n 3, 1) := by decide +kernel
theorem dL_clashes_29 : decode cL_clashes 29 = .ok (.iaload, 1) := by decide +kernel
theorem dL_clashes_30 : decode cL_clashes 30 = .ok (.aload_n 1, 1) := by decide +kernel
theorem dL_clashes_31 : decode cL_clashes 31 = .ok (.iload 4, 2) := by decide +kernel
theorem dL_clashes_33 : decode cL_clashes 33 = .ok (.iaload, 1) := by decide +kernel
theorem dL_clashes_34 : decode cL_clashes 34 = .ok (.if_icmp .ne 7, 3) := by decide +kernel
theorem dL_clashes_37 : decode cL_clashes 37 = .ok (.iconst 1, 1) := by decide +kernel
theorem dL_clashes_38 : decode cL_clashes 38 = .ok (.goto 4, 3) := by decide +kernel
theorem dL_clashes_41 : decode cL_clashes 41 = .ok (.iconst 0, 1) := by decide +kernel
theorem dL_clashes_42 : decode cL_clashes 42 = .ok (.iadd, 1) := by decide +kernel
theorem dL_clashes_43 : decode cL_clashes 43 = .ok (.istore_n 2, 1) := by decide +kernel
theorem dL_clashes_44 : decode cL_clashes 44 = .ok (.iinc 4 1, 3) := by decide +kernel
theorem dL_clashes_47 : decode cL_clashes 47 = .ok (.goto (-33), 3) := by decide +kernel
theorem dL_clashes_50 : decode cL_clashes 50 = .ok (.iinc 3 1, 3) := by decide +kernel
theorem dL_clashes_53 : decode cL_clashes 53 = .ok (.goto (-49), 3) := by decide +kernel
theorem dL_clashes_56 : decode cL_clashes 56 = .ok (.iload_n 2, 1) := by decide +kernel
theorem dL_clashes_57 : decode cL_clashes 57 = .ok (.ireturn, 1) := by decide +kernel
theorem dL_asked_0 : decode cL_asked 0 = .ok (.aload_n 0, 1) := by decide +kernel
theorem dL_asked_1 : decode cL_asked 1 = .ok (.iload_n 1, 1) := by decide +kernel
theorem dL_asked_2 : decode cL_asked 2 = .ok (.iconst 1, 1) := by decide +kernel
theorem dL_asked_3 : decode cL_asked 3 = .ok (.iadd, 1) := by decide +kernel
theorem dL_asked_4 : decode cL_asked 4 = .ok (.iaload, 1) := by decide +kernel
theorem dL_asked_5 : decode cL_asked 5 = .ok (.istore 6, 2) := by decide +kernel
theorem dL_asked_7 : decode cL_asked 7 = .ok (.iload 6, 2) := by decide +kernel
theorem dL_asked_9 : decode cL_asked 9 = .ok (.iconst 1, 1) := by decide +kernel
theorem dL_asked_10 : decode cL_asked 10 = .ok (.if_icmp .ne 7, 3) := by decide +kernel
theorem dL_asked_13 : decode cL_asked 13 = .ok (.iconst (-1), 1) := by decide +kernel
theorem dL_asked_14 : decode cL_asked 14 = .ok (.goto 11, 3) := by decide +kernel
theorem dL_asked_17 : decode cL_asked 17 = .ok (.aload 5, 2) := by decide +kernel
theorem dL_asked_19 : decode cL_asked 19 = .ok (.aload_n 0, 1) := by decide +kernel
theorem dL_asked_20 : decode cL_asked 20 = .ok (.iload_n 1, 1) := by decide +kernel
theorem dL_asked_21 : decode cL_asked 21 = .ok (.iconst 2, 1) := by decide +kernel
theorem dL_asked_22 : decode cL_asked 22 = .ok (.iadd, 1) := by decide +kernel
theorem dL_asked_23 : decode cL_asked 23 = .ok (.iaload, 1) := by decide +kernel
theorem dL_asked_24 : decode cL_asked 24 = .ok (.iaload, 1) := by decide +kernel
theorem dL_asked_25 : decode cL_asked 25 = .ok (.istore 7, 2) := by decide +kernel
theorem dL_asked_27 : decode cL_asked 27 = .ok (.aload_n 0, 1) := by decide +kernel
theorem dL_asked_28 : decode cL_asked 28 = .ok (.iload_n 1, 1) := by decide +kernel
theorem dL_asked_29 : decode cL_asked 29 = .ok (.iconst 3, 1) := by decide +kernel
theorem dL_asked_30 : decode cL_asked 30 = .ok (.iadd, 1) := by decide +kernel
theorem dL_asked_31 : decode cL_asked 31 = .ok (.iaload, 1) := by decide +kernel
theorem dL_asked_32 : decode cL_asked 32 = .ok (.istore 8, 2) := by decide +kernel
theorem dL_asked_34 : decode cL_asked 34 = .ok (.iload 6, 2) := by decide +kernel
theorem dL_asked_36 : decode cL_asked 36 = .ok (.iconst 1, 1) := by decide +kernel
theorem dL_asked_37 : decode cL_asked 37 = .ok (.if_icmp .ne 20, 3) := by decide +kernel
theorem dL_asked_40 : decode cL_asked 40 = .ok (.aload_n 3, 1) := by decide +kernel
theorem dL_asked_41 : decode cL_asked 41 = .ok (.aload 4, 2) := by decide +kernel
theorem dL_asked_43 : decode cL_asked 43 = .ok (.invokestatic 58, 3) := by decide +kernel
theorem dL_asked_46 : decode cL_asked 46 = .ok (.ifCond .ne 7, 3) := by decide +kernel
theorem dL_asked_49 : decode cL_asked 49 = .ok (.iconst 1, 1) := by decide +kernel
theorem dL_asked_50 : decode cL_asked 50 = .ok (.goto 93, 3) := by decide +kernel
theorem dL_asked_53 : decode cL_asked 53 = .ok (.iconst 0, 1) := by decide +kernel
theorem dL_asked_54 : decode cL_asked 54 = .ok (.goto 89, 3) := by decide +kernel
theorem dL_asked_57 : decode cL_asked 57 = .ok (.iload 6, 2) := by decide +kernel
theorem dL_asked_59 : decode cL_asked 59 = .ok (.iconst 4, 1) := by decide +kernel
theorem dL_asked_60 : decode cL_asked 60 = .ok (.if_icmp .ne 16, 3) := by decide +kernel
theorem dL_asked_63 : decode cL_asked 63 = .ok (.iload 7, 2) := by decide +kernel
theorem dL_asked_65 : decode cL_asked 65 = .ok (.ifCond .ge 7, 3) := by decide +kernel
theorem dL_asked_68 : decode cL_asked 68 = .ok (.iconst 1, 1) := by decide +kernel
theorem dL_asked_69 : decode cL_asked 69 = .ok (.goto 74, 3) := by decide +kernel
theorem dL_asked_72 : decode cL_asked 72 = .ok (.iconst 0, 1) := by decide +kernel
theorem dL_asked_73 : decode cL_asked 73 = .ok (.goto 70, 3) := by decide +kernel
theorem dL_asked_76 : decode cL_asked 76 = .ok (.iload 7, 2) := by decide +kernel
theorem dL_asked_78 : decode cL_asked 78 = .ok (.ifCond .lt 64, 3) := by decide +kernel
theorem dL_asked_81 : decode cL_asked 81 = .ok (.iload 6, 2) := by decide +kernel
theorem dL_asked_83 : decode cL_asked 83 = .ok (.iconst 2, 1) := by decide +kernel
theorem dL_asked_84 : decode cL_asked 84 = .ok (.if_icmp .ne 17, 3) := by decide +kernel
theorem dL_asked_87 : decode cL_asked 87 = .ok (.iload_n 2, 1) := by decide +kernel
theorem dL_asked_88 : decode cL_asked 88 = .ok (.iload 7, 2) := by decide +kernel
theorem dL_asked_90 : decode cL_asked 90 = .ok (.invokestatic 40, 3) := by decide +kernel
theorem dL_asked_93 : decode cL_asked 93 = .ok (.iload 8, 2) := by decide +kernel
theorem dL_asked_95 : decode cL_asked 95 = .ok (.if_icmp .ne 47, 3) := by decide +kernel
theorem dL_asked_98 : decode cL_asked 98 = .ok (.goto 40, 3) := by decide +kernel
theorem dL_asked_101 : decode cL_asked 101 = .ok (.iload 6, 2) := by decide +kernel
theorem dL_asked_103 : decode cL_asked 103 = .ok (.iconst 3, 1) := by decide +kernel
theorem dL_asked_104 : decode cL_asked 104 = .ok (.if_icmp .ne 24, 3) := by decide +kernel
theorem dL_asked_107 : decode cL_asked 107 = .ok (.iload_n 2, 1) := by decide +kernel
theorem dL_asked_108 : decode cL_asked 108 = .ok (.invokestatic 31, 3) := by decide +kernel
theorem dL_asked_111 : decode cL_asked 111 = .ok (.iload 7, 2) := by decide +kernel
theorem dL_asked_113 : decode cL_asked 113 = .ok (.iadd, 1) := by decide +kernel
theorem dL_asked_114 : decode cL_asked 114 = .ok (.bipush 6, 2) := by decide +kernel
theorem dL_asked_116 : decode cL_asked 116 = .ok (.iadd, 1) := by decide +kernel
theorem dL_asked_117 : decode cL_asked 117 = .ok (.bipush 7, 2) := by decide +kernel
theorem dL_asked_119 : decode cL_asked 119 = .ok (.irem, 1) := by decide +kernel
theorem dL_asked_120 : decode cL_asked 120 = .ok (.iload 8, 2) := by decide +kernel
theorem dL_asked_122 : decode cL_asked 122 = .ok (.if_icmp .ne 20, 3) := by decide +kernel
theorem dL_asked_125 : decode cL_asked 125 = .ok (.goto 13, 3) := by decide +kernel
theorem dL_asked_128 : decode cL_asked 128 = .ok (.aload 5, 2) := by decide +kernel
theorem dL_asked_130 : decode cL_asked 130 = .ok (.iload 8, 2) := by decide +kernel
theorem dL_asked_132 : decode cL_asked 132 = .ok (.iaload, 1) := by decide +kernel
theorem dL_asked_133 : decode cL_asked 133 = .ok (.iload 7, 2) := by decide +kernel
theorem dL_asked_135 : decode cL_asked 135 = .ok (.if_icmp .le 7, 3) := by decide +kernel
theorem dL_asked_138 : decode cL_asked 138 = .ok (.iconst 1, 1) := by decide +kernel
theorem dL_asked_139 : decode cL_asked 139 = .ok (.goto 4, 3) := by decide +kernel
theorem dL_asked_142 : decode cL_asked 142 = .ok (.iconst 0, 1) := by decide +kernel
theorem dL_asked_143 : decode cL_asked 143 = .ok (.istore 9, 2) := by decide +kernel
theorem dL_asked_145 : decode cL_asked 145 = .ok (.iload 9, 2) := by decide +kernel
theorem dL_asked_147 : decode cL_asked 147 = .ok (.aload_n 0, 1) := by decide +kernel
theorem dL_asked_148 : decode cL_asked 148 = .ok (.iload_n 1, 1) := by decide +kernel
theorem dL_asked_149 : decode cL_asked 149 = .ok (.iaload, 1) := by decide +kernel
theorem dL_asked_150 : decode cL_asked 150 = .ok (.iconst 1, 1) := by decide +kernel
theorem dL_asked_151 : decode cL_asked 151 = .ok (.if_icmp .ne 7, 3) := by decide +kernel
theorem dL_asked_154 : decode cL_asked 154 = .ok (.iconst 1, 1) := by decide +kernel
theorem dL_asked_155 : decode cL_asked 155 = .ok (.goto 4, 3) := by decide +kernel
theorem dL_asked_158 : decode cL_asked 158 = .ok (.iconst 0, 1) := by decide +kernel
theorem dL_asked_159 : decode cL_asked 159 = .ok (.if_icmp .eq 7, 3) := by decide +kernel
theorem dL_asked_162 : decode cL_asked 162 = .ok (.iconst 1, 1) := by decide +kernel
theorem dL_asked_163 : decode cL_asked 163 = .ok (.goto 4, 3) := by decide +kernel
theorem dL_asked_166 : decode cL_asked 166 = .ok (.iconst 0, 1) := by decide +kernel
theorem dL_asked_167 : decode cL_asked 167 = .ok (.ireturn, 1) := by decide +kernel
theorem dL_digits_0 : decode cL_digits 0 = .ok (.iload_n 2, 1) := by decide +kernel
theorem dL_digits_1 : decode cL_digits 1 = .ok (.iconst 4, 1) := by decide +kernel
theorem dL_digits_2 : decode cL_digits 2 = .ok (.if_icmp .ne 9, 3) := by decide +kernel
theorem dL_digits_5 : decode cL_digits 5 = .ok (.sipush 1000, 3) := by decide +kernel
theorem dL_digits_8 : decode cL_digits 8 = .ok (.goto 24, 3) := by decide +kernel
theorem dL_digits_11 : decode cL_digits 11 = .ok (.iload_n 2, 1) := by decide +kernel
theorem dL_digits_12 : decode cL_digits 12 = .ok (.iconst 3, 1) := by decide +kernel
theorem dL_digits_13 : decode cL_digits 13 = .ok (.if_icmp .ne 8, 3) := by decide +kernel
theorem dL_digits_16 : decode cL_digits 16 = .ok (.bipush 100, 2) := by decide +kernel
theorem dL_digits_18 : decode cL_digits 18 = .ok (.goto 14, 3) := by decide +kernel
theorem dL_digits_21 : decode cL_digits 21 = .ok (.iload_n 2, 1) := by decide +kernel
theorem dL_digits_22 : decode cL_digits 22 = .ok (.iconst 2, 1) := by decide +kernel
theorem dL_digits_23 : decode cL_digits 23 = .ok (.if_icmp .ne 8, 3) := by decide +kernel
theorem dL_digits_26 : decode cL_digits 26 = .ok (.bipush 10, 2) := by decide +kernel
theorem dL_digits_28 : decode cL_digits 28 = .ok (.goto 4, 3) := by decide +kernel
theorem dL_digits_31 : decode cL_digits 31 = .ok (.iconst 1, 1) := by decide +kernel
theorem dL_digits_32 : decode cL_digits 32 = .ok (.istore_n 3, 1) := by decide +kernel
theorem dL_digits_33 : decode cL_digits 33 = .ok (.iload_n 3, 1) := by decide +kernel
theorem dL_digits_34 : decode cL_digits 34 = .ok (.istore 4, 2) := by decide +kernel
theorem dL_digits_36 : decode cL_digits 36 = .ok (.iload 4, 2) := by decide +kernel
theorem dL_digits_38 : decode cL_digits 38 = .ok (.ifCond .le 29, 3) := by decide +kernel
theorem dL_digits_41 : decode cL_digits 41 = .ok (.aload_n 0, 1) := by decide +kernel
theorem dL_digits_42 : decode cL_digits 42 = .ok (.bipush 48, 2) := by decide +kernel
theorem dL_digits_44 : decode cL_digits 44 = .ok (.iload_n 1, 1) := by decide +kernel
theorem dL_digits_45 : decode cL_digits 45 = .ok (.iload 4, 2) := by decide +kernel
theorem dL_digits_47 : decode cL_digits 47 = .ok (.idiv, 1) := by decide +kernel
theorem dL_digits_48 : decode cL_digits 48 = .ok (.bipush 10, 2) := by decide +kernel
theorem dL_digits_50 : decode cL_digits 50 = .ok (.irem, 1) := by decide +kernel
theorem dL_digits_51 : decode cL_digits 51 = .ok (.iadd, 1) := by decide +kernel
theorem dL_digits_52 : decode cL_digits 52 = .ok (.i2c, 1) := by decide +kernel
theorem dL_digits_53 : decode cL_digits 53 = .ok (.invokevirtual 62, 3) := by decide +kernel
theorem dL_digits_56 : decode cL_digits 56 = .ok (.pop, 1) := by decide +kernel
theorem dL_digits_57 : decode cL_digits 57 = .ok (.iload 4, 2) := by decide +kernel
theorem dL_digits_59 : decode cL_digits 59 = .ok (.bipush 10, 2) := by decide +kernel
theorem dL_digits_61 : decode cL_digits 61 = .ok (.idiv, 1) := by decide +kernel
theorem dL_digits_62 : decode cL_digits 62 = .ok (.istore 4, 2) := by decide +kernel
theorem dL_digits_64 : decode cL_digits 64 = .ok (.goto (-28), 3) := by decide +kernel
theorem dL_digits_67 : decode cL_digits 67 = .ok (.return_, 1) := by decide +kernel
theorem dL_step_0 : decode cL_step 0 = .ok (.iload_n 1, 1) := by decide +kernel
theorem dL_step_1 : decode cL_step 1 = .ok (.sipush 1000, 3) := by decide +kernel
theorem dL_step_4 : decode cL_step 4 = .ok (.idiv, 1) := by decide +kernel
theorem dL_step_5 : decode cL_step 5 = .ok (.istore_n 2, 1) := by decide +kernel
theorem dL_step_6 : decode cL_step 6 = .ok (.iload_n 1, 1) := by decide +kernel
theorem dL_step_7 : decode cL_step 7 = .ok (.sipush 1000, 3) := by decide +kernel
theorem dL_step_10 : decode cL_step 10 = .ok (.irem, 1) := by decide +kernel
theorem dL_step_11 : decode cL_step 11 = .ok (.istore_n 3, 1) := by decide +kernel
theorem dL_step_12 : decode cL_step 12 = .ok (.iload_n 2, 1) := by decide +kernel
theorem dL_step_13 : decode cL_step 13 = .ok (.ifCond .ne 4, 3) := by decide +kernel
theorem dL_step_16 : decode cL_step 16 = .ok (.return_, 1) := by decide +kernel
theorem dL_step_17 : decode cL_step 17 = .ok (.iload_n 2, 1) := by decide +kernel
theorem dL_step_18 : decode cL_step 18 = .ok (.iconst 1, 1) := by decide +kernel
theorem dL_step_19 : decode cL_step 19 = .ok (.if_icmp .ne 74, 3) := by decide +kernel
theorem dL_step_22 : decode cL_step 22 = .ok (.iload_n 3, 1) := by decide +kernel
theorem dL_step_23 : decode cL_step 23 = .ok (.sipush 400, 3) := by decide +kernel
theorem dL_step_26 : decode cL_step 26 = .ok (.if_icmp .ge 11, 3) := by decide +kernel
theorem dL_step_29 : decode cL_step 29 = .ok (.sipush 400, 3) := by decide +kernel
theorem dL_step_32 : decode cL_step 32 = .ok (.iload_n 3, 1) := by decide +kernel
theorem dL_step_33 : decode cL_step 33 = .ok (.isub, 1) := by decide +kernel
theorem dL_step_34 : decode cL_step 34 = .ok (.goto 8, 3) := by decide +kernel
theorem dL_step_37 : decode cL_step 37 = .ok (.iload_n 3, 1) := by decide +kernel
theorem dL_step_38 : decode cL_step 38 = .ok (.sipush 400, 3) := by decide +kernel
theorem dL_step_41 : decode cL_step 41 = .ok (.isub, 1) := by decide +kernel
theorem dL_step_42 : decode cL_step 42 = .ok (.istore 4, 2) := by decide +kernel
theorem dL_step_44 : decode cL_step 44 = .ok (.aload_n 0, 1) := by decide +kernel
theorem dL_step_45 : decode cL_step 45 = .ok (.iload_n 3, 1) := by decide +kernel
theorem dL_step_46 : decode cL_step 46 = .ok (.sipush 400, 3) := by decide +kernel
theorem dL_step_49 : decode cL_step 49 = .ok (.if_icmp .ge 8, 3) := by decide +kernel
theorem dL_step_52 : decode cL_step 52 = .ok (.bipush 45, 2) := by decide +kernel
theorem dL_step_54 : decode cL_step 54 = .ok (.goto 5, 3) := by decide +kernel
theorem dL_step_57 : decode cL_step 57 = .ok (.bipush 43, 2) := by decide +kernel
theorem dL_step_59 : decode cL_step 59 = .ok (.invokevirtual 62, 3) := by decide +kernel
theorem dL_step_62 : decode cL_step 62 = .ok (.pop, 1) := by decide +kernel
theorem dL_step_63 : decode cL_step 63 = .ok (.aload_n 0, 1) := by decide +kernel
theorem dL_step_64 : decode cL_step 64 = .ok (.iload 4, 2) := by decide +kernel
theorem dL_step_66 : decode cL_step 66 = .ok (.iload 4, 2) := by decide +kernel
theorem dL_step_68 : decode cL_step 68 = .ok (.bipush 99, 2) := by decide +kernel
theorem dL_step_70 : decode cL_step 70 = .ok (.if_icmp .le 7, 3) := by decide +kernel
theorem dL_step_73 : decode cL_step 73 = .ok (.iconst 3, 1) := by decide +kernel
theorem dL_step_74 : decode cL_step 74 = .ok (.goto 15, 3) := by decide +kernel
theorem dL_step_77 : decode cL_step 77 = .ok (.iload 4, 2) := by decide +kernel
theorem dL_step_79 : decode cL_step 79 = .ok (.bipush 9, 2) := by decide +kernel
theorem dL_step_81 : decode cL_step 81 = .ok (.if_icmp .le 7, 3) := by decide +kernel
theorem dL_step_84 : decode cL_step 84 = .ok (.iconst 2, 1) := by decide +kernel
theorem dL_step_85 : decode cL_step 85 = .ok (.goto 4, 3) := by decide +kernel
theorem dL_step_88 : decode cL_step 88 = .ok (.iconst 1, 1) := by decide +kernel
theorem dL_step_89 : decode cL_step 89 = .ok (.invokestatic 68, 3) := by decide +kernel
theorem dL_step_92 : decode cL_step 92 = .ok (.return_, 1) := by decide +kernel
theorem dL_step_93 : decode cL_step 93 = .ok (.aload_n 0, 1) := by decide +kernel
theorem dL_step_94 : decode cL_step 94 = .ok (.iload_n 2, 1) := by decide +kernel
theorem dL_step_95 : decode cL_step 95 = .ok (.iconst 2, 1) := by decide +kernel
theorem dL_step_96 : decode cL_step 96 = .ok (.if_icmp .ne 8, 3) := by decide +kernel
theorem dL_step_99 : decode cL_step 99 = .ok (.bipush 62, 2) := by decide +kernel
theorem dL_step_101 : decode cL_step 101 = .ok (.goto 57, 3) := by decide +kernel
theorem dL_step_104 : decode cL_step 104 = .ok (.iload_n 2, 1) := by decide +kernel
theorem dL_step_105 : decode cL_step 105 = .ok (.iconst 3, 1) := by decide +kernel
theorem dL_step_106 : decode cL_step 106 = .ok (.if_icmp .ne 8, 3) := by decide +kernel
theorem dL_step_109 : decode cL_step 109 = .ok (.bipush 60, 2) := by decide +kernel
theorem dL_step_111 : decode cL_step 111 = .ok (.goto 47, 3) := by decide +kernel
theorem dL_step_114 : decode cL_step 114 = .ok (.iload_n 2, 1) := by decide +kernel
theorem dL_step_115 : decode cL_step 115 = .ok (.iconst 4, 1) := by decide +kernel
theorem dL_step_116 : decode cL_step 116 = .ok (.if_icmp .ne 8, 3) := by decide +kernel
theorem dL_step_119 : decode cL_step 119 = .ok (.bipush 93, 2) := by decide +kernel
theorem dL_step_121 : decode cL_step 121 = .ok (.goto 37, 3) := by decide +kernel
theorem dL_step_124 : decode cL_step 124 = .ok (.iload_n 2, 1) := by decide +kernel
theorem dL_step_125 : decode cL_step 125 = .ok (.iconst 5, 1) := by decide +kernel
theorem dL_step_126 : decode cL_step 126 = .ok (.if_icmp .ne 8, 3) := by decide +kernel
theorem dL_step_129 : decode cL_step 129 = .ok (.bipush 91, 2) := by decide +kernel
theorem dL_step_131 : decode cL_step 131 = .ok (.goto 27, 3) := by decide +kernel
theorem dL_step_134 : decode cL_step 134 = .ok (.iload_n 2, 1) := by decide +kernel
theorem dL_step_135 : decode cL_step 135 = .ok (.bipush 6, 2) := by decide +kernel
theorem dL_step_137 : decode cL_step 137 = .ok (.if_icmp .ne 8, 3) := by decide +kernel
theorem dL_step_140 : decode cL_step 140 = .ok (.bipush 79, 2) := by decide +kernel
theorem dL_step_142 : decode cL_step 142 = .ok (.goto 16, 3) := by decide +kernel
theorem dL_step_145 : decode cL_step 145 = .ok (.iload_n 2, 1) := by decide +kernel
theorem dL_step_146 : decode cL_step 146 = .ok (.bipush 7, 2) := by decide +kernel
theorem dL_step_148 : decode cL_step 148 = .ok (.if_icmp .ne 8, 3) := by decide +kernel
theorem dL_step_151 : decode cL_step 151 = .ok (.bipush 81, 2) := by decide +kernel
theorem dL_step_153 : decode cL_step 153 = .ok (.goto 5, 3) := by decide +kernel
theorem dL_step_156 : decode cL_step 156 = .ok (.bipush 88, 2) := by decide +kernel
theorem dL_step_158 : decode cL_step 158 = .ok (.invokevirtual 62, 3) := by decide +kernel
theorem dL_step_161 : decode cL_step 161 = .ok (.pop, 1) := by decide +kernel
theorem dL_step_162 : decode cL_step 162 = .ok (.iload_n 2, 1) := by decide +kernel
theorem dL_step_163 : decode cL_step 163 = .ok (.bipush 6, 2) := by decide +kernel
theorem dL_step_165 : decode cL_step 165 = .ok (.if_icmp .ge 9, 3) := by decide +kernel
theorem dL_step_168 : decode cL_step 168 = .ok (.aload_n 0, 1) := by decide +kernel
theorem dL_step_169 : decode cL_step 169 = .ok (.iload_n 3, 1) := by decide +kernel
theorem dL_step_170 : decode cL_step 170 = .ok (.iconst 1, 1) := by decide +kernel
theorem dL_step_171 : decode cL_step 171 = .ok (.invokestatic 68, 3) := by decide +kernel
theorem dL_step_174 : decode cL_step 174 = .ok (.return_, 1) := by decide +kernel
theorem dL_rule_0 : decode cL_rule 0 = .ok (.aload_n 1, 1) := by decide +kernel
theorem dL_rule_1 : decode cL_rule 1 = .ok (.bipush 6, 2) := by decide +kernel
theorem dL_rule_3 : decode cL_rule 3 = .ok (.iload_n 2, 1) := by decide +kernel
theorem dL_rule_4 : decode cL_rule 4 = .ok (.imul, 1) := by decide +kernel
theorem dL_rule_5 : decode cL_rule 5 = .ok (.iaload, 1) := by decide +kernel
theorem dL_rule_6 : decode cL_rule 6 = .ok (.sipush 10000, 3) := by decide +kernel
theorem dL_rule_9 : decode cL_rule 9 = .ok (.idiv, 1) := by decide +kernel
theorem dL_rule_10 : decode cL_rule 10 = .ok (.istore_n 3, 1) := by decide +kernel
theorem dL_rule_11 : decode cL_rule 11 = .ok (.aload_n 0, 1) := by decide +kernel
theorem dL_rule_12 : decode cL_rule 12 = .ok (.iload_n 3, 1) := by decide +kernel
theorem dL_rule_13 : decode cL_rule 13 = .ok (.iconst 1, 1) := by decide +kernel
theorem dL_rule_14 : decode cL_rule 14 = .ok (.if_icmp .ne 8, 3) := by decide +kernel
theorem dL_rule_17 : decode cL_rule 17 = .ok (.bipush 68, 2) := by decide +kernel
theorem dL_rule_19 : decode cL_rule 19 = .ok (.goto 25, 3) := by decide +kernel
theorem dL_rule_22 : decode cL_rule 22 = .ok (.iload_n 3, 1) := by decide +kernel
theorem dL_rule_23 : decode cL_rule 23 = .ok (.iconst 2, 1) := by decide +kernel
theorem dL_rule_24 : decode cL_rule 24 = .ok (.if_icmp .ne 8, 3) := by decide +kernel
theorem dL_rule_27 : decode cL_rule 27 = .ok (.bipush 78, 2) := by decide +kernel
theorem dL_rule_29 : decode cL_rule 29 = .ok (.goto 15, 3) := by decide +kernel
theorem dL_rule_32 : decode cL_rule 32 = .ok (.iload_n 3, 1) := by decide +kernel
theorem dL_rule_33 : decode cL_rule 33 = .ok (.iconst 3, 1) := by decide +kernel
theorem dL_rule_34 : decode cL_rule 34 = .ok (.if_icmp .ne 8, 3) := by decide +kernel
theorem dL_rule_37 : decode cL_rule 37 = .ok (.bipush 76, 2) := by decide +kernel
theorem dL_rule_39 : decode cL_rule 39 = .ok (.goto 5, 3) := by decide +kernel
theorem dL_rule_42 : decode cL_rule 42 = .ok (.bipush 70, 2) := by decide +kernel
theorem dL_rule_44 : decode cL_rule 44 = .ok (.invokevirtual 62, 3) := by decide +kernel
theorem dL_rule_47 : decode cL_rule 47 = .ok (.pop, 1) := by decide +kernel
theorem dL_rule_48 : decode cL_rule 48 = .ok (.aload_n 0, 1) := by decide +kernel
theorem dL_rule_49 : decode cL_rule 49 = .ok (.aload_n 1, 1) := by decide +kernel
theorem dL_rule_50 : decode cL_rule 50 = .ok (.bipush 6, 2) := by decide +kernel
theorem dL_rule_52 : decode cL_rule 52 = .ok (.iload_n 2, 1) := by decide +kernel
theorem dL_rule_53 : decode cL_rule 53 = .ok (.imul, 1) := by decide +kernel
theorem dL_rule_54 : decode cL_rule 54 = .ok (.iaload, 1) := by decide +kernel
theorem dL_rule_55 : decode cL_rule 55 = .ok (.sipush 10000, 3) := by decide +kernel
theorem dL_rule_58 : decode cL_rule 58 = .ok (.irem, 1) := by decide +kernel
theorem dL_rule_59 : decode cL_rule 59 = .ok (.iload_n 3, 1) := by decide +kernel
theorem dL_rule_60 : decode cL_rule 60 = .ok (.iconst 3, 1) := by decide +kernel
theorem dL_rule_61 : decode cL_rule 61 = .ok (.if_icmp .ne 7, 3) := by decide +kernel
theorem dL_rule_64 : decode cL_rule 64 = .ok (.iconst 3, 1) := by decide +kernel
theorem dL_rule_65 : decode cL_rule 65 = .ok (.goto 13, 3) := by decide +kernel
theorem dL_rule_68 : decode cL_rule 68 = .ok (.iload_n 3, 1) := by decide +kernel
theorem dL_rule_69 : decode cL_rule 69 = .ok (.iconst 4, 1) := by decide +kernel
theorem dL_rule_70 : decode cL_rule 70 = .ok (.if_icmp .ne 7, 3) := by decide +kernel
theorem dL_rule_73 : decode cL_rule 73 = .ok (.iconst 2, 1) := by decide +kernel
theorem dL_rule_74 : decode cL_rule 74 = .ok (.goto 4, 3) := by decide +kernel
theorem dL_rule_77 : decode cL_rule 77 = .ok (.iconst 4, 1) := by decide +kernel
theorem dL_rule_78 : decode cL_rule 78 = .ok (.invokestatic 68, 3) := by decide +kernel
theorem dL_rule_81 : decode cL_rule 81 = .ok (.aload_n 1, 1) := by decide +kernel
theorem dL_rule_82 : decode cL_rule 82 = .ok (.bipush 6, 2) := by decide +kernel
theorem dL_rule_84 : decode cL_rule 84 = .ok (.iload_n 2, 1) := by decide +kernel
theorem dL_rule_85 : decode cL_rule 85 = .ok (.imul, 1) := by decide +kernel
theorem dL_rule_86 : decode cL_rule 86 = .ok (.iconst 1, 1) := by decide +kernel
theorem dL_rule_87 : decode cL_rule 87 = .ok (.iadd, 1) := by decide +kernel
theorem dL_rule_88 : decode cL_rule 88 = .ok (.iaload, 1) := by decide +kernel
theorem dL_rule_89 : decode cL_rule 89 = .ok (.istore 4, 2) := by decide +kernel
theorem dL_rule_91 : decode cL_rule 91 = .ok (.iload 4, 2) := by decide +kernel
theorem dL_rule_93 : decode cL_rule 93 = .ok (.ifCond .eq 135, 3) := by decide +kernel
theorem dL_rule_96 : decode cL_rule 96 = .ok (.iload 4, 2) := by decide +kernel
theorem dL_rule_98 : decode cL_rule 98 = .ok (.ifCond .ge 9, 3) := by decide +kernel
theorem dL_rule_101 : decode cL_rule 101 = .ok (.iload 4, 2) := by decide +kernel
theorem dL_rule_103 : decode cL_rule 103 = .ok (.ineg, 1) := by decide +kernel
theorem dL_rule_104 : decode cL_rule 104 = .ok (.goto 5, 3) := by decide +kernel
theorem dL_rule_107 : decode cL_rule 107 = .ok (.iload 4, 2) := by decide +kernel
theorem dL_rule_109 : decode cL_rule 109 = .ok (.istore 5, 2) := by decide +kernel
theorem dL_rule_111 : decode cL_rule 111 = .ok (.iload 5, 2) := by decide +kernel
theorem dL_rule_113 : decode cL_rule 113 = .ok (.sipush 10000, 3) := by decide +kernel
theorem dL_rule_116 : decode cL_rule 116 = .ok (.idiv, 1) := by decide +kernel
theorem dL_rule_117 : decode cL_rule 117 = .ok (.istore 6, 2) := by decide +kernel
theorem dL_rule_119 : decode cL_rule 119 = .ok (.aload_n 0, 1) := by decide +kernel
theorem dL_rule_120 : decode cL_rule 120 = .ok (.bipush 63, 2) := by decide +kernel
theorem dL_rule_122 : decode cL_rule 122 = .ok (.invokevirtual 62, 3) := by decide +kernel
theorem dL_rule_125 : decode cL_rule 125 = .ok (.pop, 1) := by decide +kernel
theorem dL_rule_126 : decode cL_rule 126 = .ok (.iload 4, 2) := by decide +kernel
theorem dL_rule_128 : decode cL_rule 128 = .ok (.ifCond .ge 10, 3) := by decide +kernel
theorem dL_rule_131 : decode cL_rule 131 = .ok (.aload_n 0, 1) := by decide +kernel
theorem dL_rule_132 : decode cL_rule 132 = .ok (.bipush 33, 2) := by decide +kernel
theorem dL_rule_134 : decode cL_rule 134 = .ok (.invokevirtual 62, 3) := by decide +kernel
theorem dL_rule_137 : decode cL_rule 137 = .ok (.pop, 1) := by decide +kernel
theorem dL_rule_138 : decode cL_rule 138 = .ok (.aload_n 0, 1) := by decide +kernel
theorem dL_rule_139 : decode cL_rule 139 = .ok (.iload 6, 2) := by decide +kernel
theorem dL_rule_141 : decode cL_rule 141 = .ok (.bipush 13, 2) := by decide +kernel
theorem dL_rule_143 : decode cL_rule 143 = .ok (.if_icmp .ne 8, 3) := by decide +kernel
theorem dL_rule_146 : decode cL_rule 146 = .ok (.bipush 87, 2) := by decide +kernel
theorem dL_rule_148 : decode cL_rule 148 = .ok (.goto 29, 3) := by decide +kernel
theorem dL_rule_151 : decode cL_rule 151 = .ok (.iload 6, 2) := by decide +kernel
theorem dL_rule_153 : decode cL_rule 153 = .ok (.bipush 14, 2) := by decide +kernel
theorem dL_rule_155 : decode cL_rule 155 = .ok (.if_icmp .ne 8, 3) := by decide +kernel
theorem dL_rule_158 : decode cL_rule 158 = .ok (.bipush 89, 2) := by decide +kernel
theorem dL_rule_160 : decode cL_rule 160 = .ok (.goto 17, 3) := by decide +kernel
theorem dL_rule_163 : decode cL_rule 163 = .ok (.iload 6, 2) := by decide +kernel
theorem dL_rule_165 : decode cL_rule 165 = .ok (.bipush 15, 2) := by decide +kernel
theorem dL_rule_167 : decode cL_rule 167 = .ok (.if_icmp .ne 8, 3) := by decide +kernel
theorem dL_rule_170 : decode cL_rule 170 = .ok (.bipush 65, 2) := by decide +kernel
theorem dL_rule_172 : decode cL_rule 172 = .ok (.goto 5, 3) := by decide +kernel
theorem dL_rule_175 : decode cL_rule 175 = .ok (.bipush 69, 2) := by decide +kernel
theorem dL_rule_177 : decode cL_rule 177 = .ok (.invokevirtual 62, 3) := by decide +kernel
theorem dL_rule_180 : decode cL_rule 180 = .ok (.pop, 1) := by decide +kernel
theorem dL_rule_181 : decode cL_rule 181 = .ok (.iload 6, 2) := by decide +kernel
theorem dL_rule_183 : decode cL_rule 183 = .ok (.bipush 14, 2) := by decide +kernel
theorem dL_rule_185 : decode cL_rule 185 = .ok (.if_icmp .eq 36, 3) := by decide +kernel
theorem dL_rule_188 : decode cL_rule 188 = .ok (.aload_n 0, 1) := by decide +kernel
theorem dL_rule_189 : decode cL_rule 189 = .ok (.iload 5, 2) := by decide +kernel
theorem dL_rule_191 : decode cL_rule 191 = .ok (.sipush 10000, 3) := by decide +kernel
theorem dL_rule_194 : decode cL_rule 194 = .ok (.irem, 1) := by decide +kernel
theorem dL_rule_195 : decode cL_rule 195 = .ok (.iload 6, 2) := by decide +kernel
theorem dL_rule_197 : decode cL_rule 197 = .ok (.bipush 13, 2) := by decide +kernel
theorem dL_rule_199 : decode cL_rule 199 = .ok (.if_icmp .ne 7, 3) := by decide +kernel
theorem dL_rule_202 : decode cL_rule 202 = .ok (.iconst 1, 1) := by decide +kernel
theorem dL_rule_203 : decode cL_rule 203 = .ok (.goto 15, 3) := by decide +kernel
theorem dL_rule_206 : decode cL_rule 206 = .ok (.iload 6, 2) := by decide +kernel
theorem dL_rule_208 : decode cL_rule 208 = .ok (.bipush 15, 2) := by decide +kernel
theorem dL_rule_210 : decode cL_rule 210 = .ok (.if_icmp .ne 7, 3) := by decide +kernel
theorem dL_rule_213 : decode cL_rule 213 = .ok (.iconst 2, 1) := by decide +kernel
theorem dL_rule_214 : decode cL_rule 214 = .ok (.goto 4, 3) := by decide +kernel
theorem dL_rule_217 : decode cL_rule 217 = .ok (.iconst 4, 1) := by decide +kernel
theorem dL_rule_218 : decode cL_rule 218 = .ok (.invokestatic 68, 3) := by decide +kernel
theorem dL_rule_221 : decode cL_rule 221 = .ok (.aload_n 0, 1) := by decide +kernel
theorem dL_rule_222 : decode cL_rule 222 = .ok (.bipush 123, 2) := by decide +kernel
theorem dL_rule_224 : decode cL_rule 224 = .ok (.invokevirtual 62, 3) := by decide +kernel
theorem dL_rule_227 : decode cL_rule 227 = .ok (.pop, 1) := by decide +kernel
theorem dL_rule_228 : decode cL_rule 228 = .ok (.aload_n 0, 1) := by decide +kernel
theorem dL_rule_229 : decode cL_rule 229 = .ok (.aload_n 1, 1) := by decide +kernel
theorem dL_rule_230 : decode cL_rule 230 = .ok (.bipush 6, 2) := by decide +kernel
theorem dL_rule_232 : decode cL_rule 232 = .ok (.iload_n 2, 1) := by decide +kernel
theorem dL_rule_233 : decode cL_rule 233 = .ok (.imul, 1) := by decide +kernel
theorem dL_rule_234 : decode cL_rule 234 = .ok (.iconst 2, 1) := by decide +kernel
theorem dL_rule_235 : decode cL_rule 235 = .ok (.iadd, 1) := by decide +kernel
theorem dL_rule_236 : decode cL_rule 236 = .ok (.iaload, 1) := by decide +kernel
theorem dL_rule_237 : decode cL_rule 237 = .ok (.invokestatic 72, 3) := by decide +kernel
theorem dL_rule_240 : decode cL_rule 240 = .ok (.iload 4, 2) := by decide +kernel
theorem dL_rule_242 : decode cL_rule 242 = .ok (.ifCond .eq 10, 3) := by decide +kernel
theorem dL_rule_245 : decode cL_rule 245 = .ok (.aload_n 0, 1) := by decide +kernel
theorem dL_rule_246 : decode cL_rule 246 = .ok (.bipush 125, 2) := by decide +kernel
theorem dL_rule_248 : decode cL_rule 248 = .ok (.invokevirtual 62, 3) := by decide +kernel
theorem dL_rule_251 : decode cL_rule 251 = .ok (.pop, 1) := by decide +kernel
theorem dL_rule_252 : decode cL_rule 252 = .ok (.iload 4, 2) := by decide +kernel
theorem dL_rule_254 : decode cL_rule 254 = .ok (.ifCond .eq 40, 3) := by decide +kernel
theorem dL_rule_257 : decode cL_rule 257 = .ok (.aload_n 1, 1) := by decide +kernel
theorem dL_rule_258 : decode cL_rule 258 = .ok (.bipush 6, 2) := by decide +kernel
theorem dL_rule_260 : decode cL_rule 260 = .ok (.iload_n 2, 1) := by decide +kernel
theorem dL_rule_261 : decode cL_rule 261 = .ok (.imul, 1) := by decide +kernel
theorem dL_rule_262 : decode cL_rule 262 = .ok (.iconst 3, 1) := by decide +kernel
theorem dL_rule_263 : decode cL_rule 263 = .ok (.iadd, 1) := by decide +kernel
theorem dL_rule_264 : decode cL_rule 264 = .ok (.iaload, 1) := by decide +kernel
theorem dL_rule_265 : decode cL_rule 265 = .ok (.ifCond .lt 29, 3) := by decide +kernel
theorem dL_rule_268 : decode cL_rule 268 = .ok (.aload_n 0, 1) := by decide +kernel
theorem dL_rule_269 : decode cL_rule 269 = .ok (.bipush 123, 2) := by decide +kernel
theorem dL_rule_271 : decode cL_rule 271 = .ok (.invokevirtual 62, 3) := by decide +kernel
theorem dL_rule_274 : decode cL_rule 274 = .ok (.pop, 1) := by decide +kernel
theorem dL_rule_275 : decode cL_rule 275 = .ok (.aload_n 0, 1) := by decide +kernel
theorem dL_rule_276 : decode cL_rule 276 = .ok (.aload_n 1, 1) := by decide +kernel
theorem dL_rule_277 : decode cL_rule 277 = .ok (.bipush 6, 2) := by decide +kernel
theorem dL_rule_279 : decode cL_rule 279 = .ok (.iload_n 2, 1) := by decide +kernel
theorem dL_rule_280 : decode cL_rule 280 = .ok (.imul, 1) := by decide +kernel
theorem dL_rule_281 : decode cL_rule 281 = .ok (.iconst 3, 1) := by decide +kernel
theorem dL_rule_282 : decode cL_rule 282 = .ok (.iadd, 1) := by decide +kernel
theorem dL_rule_283 : decode cL_rule 283 = .ok (.iaload, 1) := by decide +kernel
theorem dL_rule_284 : decode cL_rule 284 = .ok (.invokestatic 72, 3) := by decide +kernel
theorem dL_rule_287 : decode cL_rule 287 = .ok (.aload_n 0, 1) := by decide +kernel
theorem dL_rule_288 : decode cL_rule 288 = .ok (.bipush 125, 2) := by decide +kernel
theorem dL_rule_290 : decode cL_rule 290 = .ok (.invokevirtual 62, 3) := by decide +kernel
theorem dL_rule_293 : decode cL_rule 293 = .ok (.pop, 1) := by decide +kernel
theorem dL_rule_294 : decode cL_rule 294 = .ok (.aload_n 0, 1) := by decide +kernel
theorem dL_rule_295 : decode cL_rule 295 = .ok (.aload_n 1, 1) := by decide +kernel
theorem dL_rule_296 : decode cL_rule 296 = .ok (.bipush 6, 2) := by decide +kernel
theorem dL_rule_298 : decode cL_rule 298 = .ok (.iload_n 2, 1) := by decide +kernel
theorem dL_rule_299 : decode cL_rule 299 = .ok (.imul, 1) := by decide +kernel
theorem dL_rule_300 : decode cL_rule 300 = .ok (.iconst 4, 1) := by decide +kernel
theorem dL_rule_301 : decode cL_rule 301 = .ok (.iadd, 1) := by decide +kernel
theorem dL_rule_302 : decode cL_rule 302 = .ok (.iaload, 1) := by decide +kernel
theorem dL_rule_303 : decode cL_rule 303 = .ok (.invokestatic 72, 3) := by decide +kernel
theorem dL_rule_306 : decode cL_rule 306 = .ok (.aload_n 0, 1) := by decide +kernel
theorem dL_rule_307 : decode cL_rule 307 = .ok (.aload_n 1, 1) := by decide +kernel
theorem dL_rule_308 : decode cL_rule 308 = .ok (.bipush 6, 2) := by decide +kernel
theorem dL_rule_310 : decode cL_rule 310 = .ok (.iload_n 2, 1) := by decide +kernel
theorem dL_rule_311 : decode cL_rule 311 = .ok (.imul, 1) := by decide +kernel
theorem dL_rule_312 : decode cL_rule 312 = .ok (.iconst 5, 1) := by decide +kernel
theorem dL_rule_313 : decode cL_rule 313 = .ok (.iadd, 1) := by decide +kernel
theorem dL_rule_314 : decode cL_rule 314 = .ok (.iaload, 1) := by decide +kernel
theorem dL_rule_315 : decode cL_rule 315 = .ok (.invokestatic 72, 3) := by decide +kernel
theorem dL_rule_318 : decode cL_rule 318 = .ok (.return_, 1) := by decide +kernel
theorem dL_ask_0 : decode cL_ask 0 = .ok (.aload_n 1, 1) := by decide +kernel
theorem dL_ask_1 : decode cL_ask 1 = .ok (.iload_n 2, 1) := by decide +kernel
theorem dL_ask_2 : decode cL_ask 2 = .ok (.iaload, 1) := by decide +kernel
theorem dL_ask_3 : decode cL_ask 3 = .ok (.iconst 1, 1) := by decide +kernel
theorem dL_ask_4 : decode cL_ask 4 = .ok (.if_icmp .ne 10, 3) := by decide +kernel
theorem dL_ask_7 : decode cL_ask 7 = .ok (.aload_n 0, 1) := by decide +kernel
theorem dL_ask_8 : decode cL_ask 8 = .ok (.bipush 33, 2) := by decide +kernel
theorem dL_ask_10 : decode cL_ask 10 = .ok (.invokevirtual 62, 3) := by decide +kernel
theorem dL_ask_13 : decode cL_ask 13 = .ok (.pop, 1) := by decide +kernel
theorem dL_ask_14 : decode cL_ask 14 = .ok (.aload_n 1, 1) := by decide +kernel
theorem dL_ask_15 : decode cL_ask 15 = .ok (.iload_n 2, 1) := by decide +kernel
theorem dL_ask_16 : decode cL_ask 16 = .ok (.iconst 1, 1) := by decide +kernel
theorem dL_ask_17 : decode cL_ask 17 = .ok (.iadd, 1) := by decide +kernel
theorem dL_ask_18 : decode cL_ask 18 = .ok (.iaload, 1) := by decide +kernel
theorem dL_ask_19 : decode cL_ask 19 = .ok (.istore_n 3, 1) := by decide +kernel
theorem dL_ask_20 : decode cL_ask 20 = .ok (.aload_n 0, 1) := by decide +kernel
theorem dL_ask_21 : decode cL_ask 21 = .ok (.iload_n 3, 1) := by decide +kernel
theorem dL_ask_22 : decode cL_ask 22 = .ok (.iconst 1, 1) := by decide +kernel
theorem dL_ask_23 : decode cL_ask 23 = .ok (.if_icmp .ne 8, 3) := by decide +kernel
theorem dL_ask_26 : decode cL_ask 26 = .ok (.bipush 67, 2) := by decide +kernel
theorem dL_ask_28 : decode cL_ask 28 = .ok (.goto 35, 3) := by decide +kernel
theorem dL_ask_31 : decode cL_ask 31 = .ok (.iload_n 3, 1) := by decide +kernel
theorem dL_ask_32 : decode cL_ask 32 = .ok (.iconst 2, 1) := by decide +kernel
theorem dL_ask_33 : decode cL_ask 33 = .ok (.if_icmp .ne 8, 3) := by decide +kernel
theorem dL_ask_36 : decode cL_ask 36 = .ok (.bipush 68, 2) := by decide +kernel
theorem dL_ask_38 : decode cL_ask 38 = .ok (.goto 25, 3) := by decide +kernel
theorem dL_ask_41 : decode cL_ask 41 = .ok (.iload_n 3, 1) := by decide +kernel
theorem dL_ask_42 : decode cL_ask 42 = .ok (.iconst 3, 1) := by decide +kernel
theorem dL_ask_43 : decode cL_ask 43 = .ok (.if_icmp .ne 8, 3) := by decide +kernel
theorem dL_ask_46 : decode cL_ask 46 = .ok (.bipush 87, 2) := by decide +kernel
theorem dL_ask_48 : decode cL_ask 48 = .ok (.goto 15, 3) := by decide +kernel
theorem dL_ask_51 : decode cL_ask 51 = .ok (.iload_n 3, 1) := by decide +kernel
theorem dL_ask_52 : decode cL_ask 52 = .ok (.iconst 4, 1) := by decide +kernel
theorem dL_ask_53 : decode cL_ask 53 = .ok (.if_icmp .ne 8, 3) := by decide +kernel
theorem dL_ask_56 : decode cL_ask 56 = .ok (.bipush 78, 2) := by decide +kernel
theorem dL_ask_58 : decode cL_ask 58 = .ok (.goto 5, 3) := by decide +kernel
theorem dL_ask_61 : decode cL_ask 61 = .ok (.bipush 66, 2) := by decide +kernel
theorem dL_ask_63 : decode cL_ask 63 = .ok (.invokevirtual 62, 3) := by decide +kernel
theorem dL_ask_66 : decode cL_ask 66 = .ok (.pop, 1) := by decide +kernel
theorem dL_ask_67 : decode cL_ask 67 = .ok (.iload_n 3, 1) := by decide +kernel
theorem dL_ask_68 : decode cL_ask 68 = .ok (.iconst 1, 1) := by decide +kernel
theorem dL_ask_69 : decode cL_ask 69 = .ok (.if_icmp .le 13, 3) := by decide +kernel
theorem dL_ask_72 : decode cL_ask 72 = .ok (.aload_n 0, 1) := by decide +kernel
theorem dL_ask_73 : decode cL_ask 73 = .ok (.aload_n 1, 1) := by decide +kernel
theorem dL_ask_74 : decode cL_ask 74 = .ok (.iload_n 2, 1) := by decide +kernel
theorem dL_ask_75 : decode cL_ask 75 = .ok (.iconst 2, 1) := by decide +kernel
theorem dL_ask_76 : decode cL_ask 76 = .ok (.iadd, 1) := by decide +kernel
theorem dL_ask_77 : decode cL_ask 77 = .ok (.iaload, 1) := by decide +kernel
theorem dL_ask_78 : decode cL_ask 78 = .ok (.iconst 2, 1) := by decide +kernel
theorem dL_ask_79 : decode cL_ask 79 = .ok (.invokestatic 68, 3) := by decide +kernel
theorem dL_ask_82 : decode cL_ask 82 = .ok (.iload_n 3, 1) := by decide +kernel
theorem dL_ask_83 : decode cL_ask 83 = .ok (.iconst 2, 1) := by decide +kernel
theorem dL_ask_84 : decode cL_ask 84 = .ok (.if_icmp .ne 13, 3) := by decide +kernel
theorem dL_ask_87 : decode cL_ask 87 = .ok (.aload_n 0, 1) := by decide +kernel
theorem dL_ask_88 : decode cL_ask 88 = .ok (.aload_n 1, 1) := by decide +kernel
theorem dL_ask_89 : decode cL_ask 89 = .ok (.iload_n 2, 1) := by decide +kernel
theorem dL_ask_90 : decode cL_ask 90 = .ok (.iconst 3, 1) := by decide +kernel
theorem dL_ask_91 : decode cL_ask 91 = .ok (.iadd, 1) := by decide +kernel
theorem dL_ask_92 : decode cL_ask 92 = .ok (.iaload, 1) := by decide +kernel
theorem dL_ask_93 : decode cL_ask 93 = .ok (.iconst 4, 1) := by decide +kernel
theorem dL_ask_94 : decode cL_ask 94 = .ok (.invokestatic 68, 3) := by decide +kernel
theorem dL_ask_97 : decode cL_ask 97 = .ok (.iload_n 3, 1) := by decide +kernel
theorem dL_ask_98 : decode cL_ask 98 = .ok (.iconst 3, 1) := by decide +kernel
theorem dL_ask_99 : decode cL_ask 99 = .ok (.if_icmp .ne 13, 3) := by decide +kernel
theorem dL_ask_102 : decode cL_ask 102 = .ok (.aload_n 0, 1) := by decide +kernel
theorem dL_ask_103 : decode cL_ask 103 = .ok (.aload_n 1, 1) := by decide +kernel
theorem dL_ask_104 : decode cL_ask 104 = .ok (.iload_n 2, 1) := by decide +kernel
theorem dL_ask_105 : decode cL_ask 105 = .ok (.iconst 3, 1) := by decide +kernel
theorem dL_ask_106 : decode cL_ask 106 = .ok (.iadd, 1) := by decide +kernel
theorem dL_ask_107 : decode cL_ask 107 = .ok (.iaload, 1) := by decide +kernel
theorem dL_ask_108 : decode cL_ask 108 = .ok (.iconst 1, 1) := by decide +kernel
theorem dL_ask_109 : decode cL_ask 109 = .ok (.invokestatic 68, 3) := by decide +kernel
theorem dL_ask_112 : decode cL_ask 112 = .ok (.iload_n 3, 1) := by decide +kernel
theorem dL_ask_113 : decode cL_ask 113 = .ok (.iconst 5, 1) := by decide +kernel
theorem dL_ask_114 : decode cL_ask 114 = .ok (.if_icmp .ne 13, 3) := by decide +kernel
theorem dL_ask_117 : decode cL_ask 117 = .ok (.aload_n 0, 1) := by decide +kernel
theorem dL_ask_118 : decode cL_ask 118 = .ok (.aload_n 1, 1) := by decide +kernel
theorem dL_ask_119 : decode cL_ask 119 = .ok (.iload_n 2, 1) := by decide +kernel
theorem dL_ask_120 : decode cL_ask 120 = .ok (.iconst 3, 1) := by decide +kernel
theorem dL_ask_121 : decode cL_ask 121 = .ok (.iadd, 1) := by decide +kernel
theorem dL_ask_122 : decode cL_ask 122 = .ok (.iaload, 1) := by decide +kernel
theorem dL_ask_123 : decode cL_ask 123 = .ok (.iconst 2, 1) := by decide +kernel
theorem dL_ask_124 : decode cL_ask 124 = .ok (.invokestatic 68, 3) := by decide +kernel
theorem dL_ask_127 : decode cL_ask 127 = .ok (.return_, 1) := by decide +kernel
theorem dL_drawDate_0 : decode cL_drawDate 0 = .ok (.iconst 1, 1) := by decide +kernel
theorem dL_drawDate_1 : decode cL_drawDate 1 = .ok (.iload_n 0, 1) := by decide +kernel
theorem dL_drawDate_2 : decode cL_drawDate 2 = .ok (.bipush 6, 2) := by decide +kernel
theorem dL_drawDate_4 : decode cL_drawDate 4 = .ok (.ishr, 1) := by decide +kernel
theorem dL_drawDate_5 : decode cL_drawDate 5 = .ok (.bipush 12, 2) := by decide +kernel
theorem dL_drawDate_7 : decode cL_drawDate 7 = .ok (.invokestatic 76, 3) := by decide +kernel
theorem dL_drawDate_10 : decode cL_drawDate 10 = .ok (.iadd, 1) := by decide +kernel
theorem dL_drawDate_11 : decode cL_drawDate 11 = .ok (.istore_n 1, 1) := by decide +kernel
theorem dL_drawDate_12 : decode cL_drawDate 12 = .ok (.bipush 100, 2) := by decide +kernel
theorem dL_drawDate_14 : decode cL_drawDate 14 = .ok (.iload_n 1, 1) := by decide +kernel
theorem dL_drawDate_15 : decode cL_drawDate 15 = .ok (.imul, 1) := by decide +kernel
theorem dL_drawDate_16 : decode cL_drawDate 16 = .ok (.iconst 1, 1) := by decide +kernel
theorem dL_drawDate_17 : decode cL_drawDate 17 = .ok (.iadd, 1) := by decide +kernel
theorem dL_drawDate_18 : decode cL_drawDate 18 = .ok (.iload_n 0, 1) := by decide +kernel
theorem dL_drawDate_19 : decode cL_drawDate 19 = .ok (.iload_n 1, 1) := by decide +kernel
theorem dL_drawDate_20 : decode cL_drawDate 20 = .ok (.iconst 2, 1) := by decide +kernel
theorem dL_drawDate_21 : decode cL_drawDate 21 = .ok (.if_icmp .ne 8, 3) := by decide +kernel
theorem dL_drawDate_24 : decode cL_drawDate 24 = .ok (.bipush 29, 2) := by decide +kernel
theorem dL_drawDate_26 : decode cL_drawDate 26 = .ok (.goto 33, 3) := by decide +kernel
theorem dL_drawDate_29 : decode cL_drawDate 29 = .ok (.iload_n 1, 1) := by decide +kernel
theorem dL_drawDate_30 : decode cL_drawDate 30 = .ok (.iconst 4, 1) := by decide +kernel
theorem dL_drawDate_31 : decode cL_drawDate 31 = .ok (.if_icmp .eq 21, 3) := by decide +kernel
theorem dL_drawDate_34 : decode cL_drawDate 34 = .ok (.iload_n 1, 1) := by decide +kernel
theorem dL_drawDate_35 : decode cL_drawDate 35 = .ok (.bipush 6, 2) := by decide +kernel
theorem dL_drawDate_37 : decode cL_drawDate 37 = .ok (.if_icmp .eq 15, 3) := by decide +kernel
theorem dL_drawDate_40 : decode cL_drawDate 40 = .ok (.iload_n 1, 1) := by decide +kernel
theorem dL_drawDate_41 : decode cL_drawDate 41 = .ok (.bipush 9, 2) := by decide +kernel
theorem dL_drawDate_43 : decode cL_drawDate 43 = .ok (.if_icmp .eq 9, 3) := by decide +kernel
theorem dL_drawDate_46 : decode cL_drawDate 46 = .ok (.iload_n 1, 1) := by decide +kernel
theorem dL_drawDate_47 : decode cL_drawDate 47 = .ok (.bipush 11, 2) := by decide +kernel
theorem dL_drawDate_49 : decode cL_drawDate 49 = .ok (.if_icmp .ne 8, 3) := by decide +kernel
theorem dL_drawDate_52 : decode cL_drawDate 52 = .ok (.bipush 30, 2) := by decide +kernel
theorem dL_drawDate_54 : decode cL_drawDate 54 = .ok (.goto 5, 3) := by decide +kernel
theorem dL_drawDate_57 : decode cL_drawDate 57 = .ok (.bipush 31, 2) := by decide +kernel
theorem dL_drawDate_59 : decode cL_drawDate 59 = .ok (.invokestatic 76, 3) := by decide +kernel
theorem dL_drawDate_62 : decode cL_drawDate 62 = .ok (.iadd, 1) := by decide +kernel
theorem dL_drawDate_63 : decode cL_drawDate 63 = .ok (.ireturn, 1) := by decide +kernel
theorem dL_drawStep_0 : decode cL_drawStep 0 = .ok (.iload_n 0, 1) := by decide +kernel
theorem dL_drawStep_1 : decode cL_drawStep 1 = .ok (.bipush 9, 2) := by decide +kernel
theorem dL_drawStep_3 : decode cL_drawStep 3 = .ok (.invokestatic 76, 3) := by decide +kernel
theorem dL_drawStep_6 : decode cL_drawStep 6 = .ok (.istore_n 1, 1) := by decide +kernel
theorem dL_drawStep_7 : decode cL_drawStep 7 = .ok (.iload_n 1, 1) := by decide +kernel
theorem dL_drawStep_8 : decode cL_drawStep 8 = .ok (.iconst 1, 1) := by decide +kernel
theorem dL_drawStep_9 : decode cL_drawStep 9 = .ok (.if_icmp .ne 53, 3) := by decide +kernel
theorem dL_drawStep_12 : decode cL_drawStep 12 = .ok (.sipush 1400, 3) := by decide +kernel
theorem dL_drawStep_15 : decode cL_drawStep 15 = .ok (.iload_n 0, 1) := by decide +kernel
theorem dL_drawStep_16 : decode cL_drawStep 16 = .ok (.iconst 5, 1) := by decide +kernel
theorem dL_drawStep_17 : decode cL_drawStep 17 = .ok (.ishr, 1) := by decide +kernel
theorem dL_drawStep_18 : decode cL_drawStep 18 = .ok (.iload_n 0, 1) := by decide +kernel
theorem dL_drawStep_19 : decode cL_drawStep 19 = .ok (.iconst 4, 1) := by decide +kernel
theorem dL_drawStep_20 : decode cL_drawStep 20 = .ok (.ishr, 1) := by decide +kernel
theorem dL_drawStep_21 : decode cL_drawStep 21 = .ok (.iconst 3, 1) := by decide +kernel
theorem dL_drawStep_22 : decode cL_drawStep 22 = .ok (.invokestatic 76, 3) := by decide +kernel
theorem dL_drawStep_25 : decode cL_drawStep 25 = .ok (.ifCond .ne 9, 3) := by decide +kernel
theorem dL_drawStep_28 : decode cL_drawStep 28 = .ok (.sipush 733, 3) := by decide +kernel
theorem dL_drawStep_31 : decode cL_drawStep 31 = .ok (.goto 5, 3) := by decide +kernel
theorem dL_drawStep_34 : decode cL_drawStep 34 = .ok (.bipush 41, 2) := by decide +kernel
theorem dL_drawStep_36 : decode cL_drawStep 36 = .ok (.invokestatic 76, 3) := by decide +kernel
theorem dL_drawStep_39 : decode cL_drawStep 39 = .ok (.iadd, 1) := by decide +kernel
theorem dL_drawStep_40 : decode cL_drawStep 40 = .ok (.iload_n 0, 1) := by decide +kernel
theorem dL_drawStep_41 : decode cL_drawStep 41 = .ok (.iconst 4, 1) := by decide +kernel
theorem dL_drawStep_42 : decode cL_drawStep 42 = .ok (.ishr, 1) := by decide +kernel
theorem dL_drawStep_43 : decode cL_drawStep 43 = .ok (.iconst 3, 1) := by decide +kernel
theorem dL_drawStep_44 : decode cL_drawStep 44 = .ok (.invokestatic 76, 3) := by decide +kernel
theorem dL_drawStep_47 : decode cL_drawStep 47 = .ok (.ifCond .ne 9, 3) := by decide +kernel
theorem dL_drawStep_50 : decode cL_drawStep 50 = .ok (.sipush 366, 3) := by decide +kernel
theorem dL_drawStep_53 : decode cL_drawStep 53 = .ok (.goto 5, 3) := by decide +kernel
theorem dL_drawStep_56 : decode cL_drawStep 56 = .ok (.bipush 20, 2) := by decide +kernel
theorem dL_drawStep_58 : decode cL_drawStep 58 = .ok (.isub, 1) := by decide +kernel
theorem dL_drawStep_59 : decode cL_drawStep 59 = .ok (.goto 35, 3) := by decide +kernel
theorem dL_drawStep_62 : decode cL_drawStep 62 = .ok (.iload_n 1, 1) := by decide +kernel
theorem dL_drawStep_63 : decode cL_drawStep 63 = .ok (.bipush 6, 2) := by decide +kernel
theorem dL_drawStep_65 : decode cL_drawStep 65 = .ok (.if_icmp .ge 24, 3) := by decide +kernel
theorem dL_drawStep_68 : decode cL_drawStep 68 = .ok (.iload_n 1, 1) := by decide +kernel
theorem dL_drawStep_69 : decode cL_drawStep 69 = .ok (.ifCond .le 20, 3) := by decide +kernel
theorem dL_drawStep_72 : decode cL_drawStep 72 = .ok (.sipush 1000, 3) := by decide +kernel
theorem dL_drawStep_75 : decode cL_drawStep 75 = .ok (.iload_n 1, 1) := by decide +kernel
theorem dL_drawStep_76 : decode cL_drawStep 76 = .ok (.imul, 1) := by decide +kernel
theorem dL_drawStep_77 : decode cL_drawStep 77 = .ok (.iload_n 0, 1) := by decide +kernel
theorem dL_drawStep_78 : decode cL_drawStep 78 = .ok (.iconst 5, 1) := by decide +kernel
theorem dL_drawStep_79 : decode cL_drawStep 79 = .ok (.ishr, 1) := by decide +kernel
theorem dL_drawStep_80 : decode cL_drawStep 80 = .ok (.bipush 7, 2) := by decide +kernel
theorem dL_drawStep_82 : decode cL_drawStep 82 = .ok (.invokestatic 76, 3) := by decide +kernel
theorem dL_drawStep_85 : decode cL_drawStep 85 = .ok (.iadd, 1) := by decide +kernel
theorem dL_drawStep_86 : decode cL_drawStep 86 = .ok (.goto 8, 3) := by decide +kernel
theorem dL_drawStep_89 : decode cL_drawStep 89 = .ok (.sipush 1000, 3) := by decide +kernel
theorem dL_drawStep_92 : decode cL_drawStep 92 = .ok (.iload_n 1, 1) := by decide +kernel
theorem dL_drawStep_93 : decode cL_drawStep 93 = .ok (.imul, 1) := by decide +kernel
theorem dL_drawStep_94 : decode cL_drawStep 94 = .ok (.ireturn, 1) := by decide +kernel
theorem dL_refused_0 : decode cL_refused 0 = .ok (.iload_n 1, 1) := by decide +kernel
theorem dL_refused_1 : decode cL_refused 1 = .ok (.ifCond .ne 14, 3) := by decide +kernel
theorem dL_refused_4 : decode cL_refused 4 = .ok (.aload_n 0, 1) := by decide +kernel
theorem dL_refused_5 : decode cL_refused 5 = .ok (.iload_n 2, 1) := by decide +kernel
theorem dL_refused_6 : decode cL_refused 6 = .ok (.iload_n 3, 1) := by decide +kernel
theorem dL_refused_7 : decode cL_refused 7 = .ok (.iload 4, 2) := by decide +kernel
theorem dL_refused_9 : decode cL_refused 9 = .ok (.invokevirtual 79, 3) := by decide +kernel
theorem dL_refused_12 : decode cL_refused 12 = .ok (.goto 36, 3) := by decide +kernel
theorem dL_refused_15 : decode cL_refused 15 = .ok (.iload_n 1, 1) := by decide +kernel
theorem dL_refused_16 : decode cL_refused 16 = .ok (.iconst 1, 1) := by decide +kernel
theorem dL_refused_17 : decode cL_refused 17 = .ok (.if_icmp .ne 12, 3) := by decide +kernel
theorem dL_refused_20 : decode cL_refused 20 = .ok (.aload_n 0, 1) := by decide +kernel
theorem dL_refused_21 : decode cL_refused 21 = .ok (.iload_n 2, 1) := by decide +kernel
theorem dL_refused_22 : decode cL_refused 22 = .ok (.iload_n 3, 1) := by decide +kernel
theorem dL_refused_23 : decode cL_refused 23 = .ok (.invokevirtual 83, 3) := by decide +kernel
theorem dL_refused_26 : decode cL_refused 26 = .ok (.goto 22, 3) := by decide +kernel
theorem dL_refused_29 : decode cL_refused 29 = .ok (.iload_n 1, 1) := by decide +kernel
theorem dL_refused_30 : decode cL_refused 30 = .ok (.iconst 2, 1) := by decide +kernel
theorem dL_refused_31 : decode cL_refused 31 = .ok (.if_icmp .ne 11, 3) := by decide +kernel
theorem dL_refused_34 : decode cL_refused 34 = .ok (.aload_n 0, 1) := by decide +kernel
theorem dL_refused_35 : decode cL_refused 35 = .ok (.iload_n 2, 1) := by decide +kernel
theorem dL_refused_36 : decode cL_refused 36 = .ok (.invokevirtual 86, 3) := by decide +kernel
theorem dL_refused_39 : decode cL_refused 39 = .ok (.goto 9, 3) := by decide +kernel
theorem dL_refused_42 : decode cL_refused 42 = .ok (.aload_n 0, 1) := by decide +kernel
theorem dL_refused_43 : decode cL_refused 43 = .ok (.iload_n 2, 1) := by decide +kernel
theorem dL_refused_44 : decode cL_refused 44 = .ok (.iconst 0, 1) := by decide +kernel
theorem dL_refused_45 : decode cL_refused 45 = .ok (.invokevirtual 89, 3) := by decide +kernel
theorem dL_refused_48 : decode cL_refused 48 = .ok (.iconst 0, 1) := by decide +kernel
theorem dL_refused_49 : decode cL_refused 49 = .ok (.imul, 1) := by decide +kernel
theorem dL_refused_50 : decode cL_refused 50 = .ok (.ireturn, 1) := by decide +kernel
theorem dL_refused_51 : decode cL_refused 51 = .ok (.astore 5, 2) := by decide +kernel
theorem dL_refused_53 : decode cL_refused 53 = .ok (.iconst 1, 1) := by decide +kernel
theorem dL_refused_54 : decode cL_refused 54 = .ok (.ireturn, 1) := by decide +kernel
theorem dL_refused_55 : decode cL_refused 55 = .ok (.astore 5, 2) := by decide +kernel
theorem dL_refused_57 : decode cL_refused 57 = .ok (.iconst 2, 1) := by decide +kernel
theorem dL_refused_58 : decode cL_refused 58 = .ok (.ireturn, 1) := by decide +kernel
theorem dL_refused_59 : decode cL_refused 59 = .ok (.astore 5, 2) := by decide +kernel
theorem dL_refused_61 : decode cL_refused 61 = .ok (.iconst 3, 1) := by decide +kernel
theorem dL_refused_62 : decode cL_refused 62 = .ok (.ireturn, 1) := by decide +kernel
theorem dL_year_0 : decode cL_year 0 = .ok (.bipush 10, 2) := by decide +kernel
theorem dL_year_2 : decode cL_year 2 = .ok (.newarray .int, 2) := by decide +kernel
theorem dL_year_4 : decode cL_year 4 = .ok (.astore 7, 2) := by decide +kernel
theorem dL_year_6 : decode cL_year 6 = .ok (.bipush 10, 2) := by decide +kernel
theorem dL_year_8 : decode cL_year 8 = .ok (.newarray .int, 2) := by decide +kernel
theorem dL_year_10 : decode cL_year 10 = .ok (.astore 8, 2) := by decide +kernel
theorem dL_year_12 : decode cL_year 12 = .ok (.bipush 10, 2) := by decide +kernel
theorem dL_year_14 : decode cL_year 14 = .ok (.newarray .int, 2) := by decide +kernel
theorem dL_year_16 : decode cL_year 16 = .ok (.astore 9, 2) := by decide +kernel
theorem dL_year_18 : decode cL_year 18 = .ok (.bipush 10, 2) := by decide +kernel
theorem dL_year_20 : decode cL_year 20 = .ok (.newarray .int, 2) := by decide +kernel
theorem dL_year_22 : decode cL_year 22 = .ok (.astore 10, 2) := by decide +kernel
theorem dL_year_24 : decode cL_year 24 = .ok (.aload_n 1, 1) := by decide +kernel
theorem dL_year_25 : decode cL_year 25 = .ok (.aload_n 3, 1) := by decide +kernel
theorem dL_year_26 : decode cL_year 26 = .ok (.aload 4, 2) := by decide +kernel
theorem dL_year_28 : decode cL_year 28 = .ok (.iload 6, 2) := by decide +kernel
theorem dL_year_30 : decode cL_year 30 = .ok (.iconst 1, 1) := by decide +kernel
theorem dL_year_31 : decode cL_year 31 = .ok (.aload 4, 2) := by decide +kernel
theorem dL_year_33 : decode cL_year 33 = .ok (.iconst 2, 1) := by decide +kernel
theorem dL_year_34 : decode cL_year 34 = .ok (.iaload, 1) := by decide +kernel
theorem dL_year_35 : decode cL_year 35 = .ok (.isub, 1) := by decide +kernel
theorem dL_year_36 : decode cL_year 36 = .ok (.aload 7, 2) := by decide +kernel
theorem dL_year_38 : decode cL_year 38 = .ok (.aload 9, 2) := by decide +kernel
theorem dL_year_40 : decode cL_year 40 = .ok (.invokestatic 99, 3) := by decide +kernel
theorem dL_year_43 : decode cL_year 43 = .ok (.aload_n 1, 1) := by decide +kernel
theorem dL_year_44 : decode cL_year 44 = .ok (.aload_n 3, 1) := by decide +kernel
theorem dL_year_45 : decode cL_year 45 = .ok (.aload 4, 2) := by decide +kernel
theorem dL_year_47 : decode cL_year 47 = .ok (.iload 6, 2) := by decide +kernel
theorem dL_year_49 : decode cL_year 49 = .ok (.aload 4, 2) := by decide +kernel
theorem dL_year_51 : decode cL_year 51 = .ok (.iconst 2, 1) := by decide +kernel
theorem dL_year_52 : decode cL_year 52 = .ok (.iaload, 1) := by decide +kernel
theorem dL_year_53 : decode cL_year 53 = .ok (.aload 8, 2) := by decide +kernel
theorem dL_year_55 : decode cL_year 55 = .ok (.aload 9, 2) := by decide +kernel
theorem dL_year_57 : decode cL_year 57 = .ok (.invokestatic 99, 3) := by decide +kernel
theorem dL_year_60 : decode cL_year 60 = .ok (.aload_n 2, 1) := by decide +kernel
theorem dL_year_61 : decode cL_year 61 = .ok (.aload 4, 2) := by decide +kernel
theorem dL_year_63 : decode cL_year 63 = .ok (.iload 6, 2) := by decide +kernel
theorem dL_year_65 : decode cL_year 65 = .ok (.aload 8, 2) := by decide +kernel
theorem dL_year_67 : decode cL_year 67 = .ok (.aload 10, 2) := by decide +kernel
theorem dL_year_69 : decode cL_year 69 = .ok (.invokestatic 103, 3) := by decide +kernel
theorem dL_year_72 : decode cL_year 72 = .ok (.iconst 1, 1) := by decide +kernel
theorem dL_year_73 : decode cL_year 73 = .ok (.istore 11, 2) := by decide +kernel
theorem dL_year_75 : decode cL_year 75 = .ok (.iconst 0, 1) := by decide +kernel
theorem dL_year_76 : decode cL_year 76 = .ok (.istore 12, 2) := by decide +kernel
theorem dL_year_78 : decode cL_year 78 = .ok (.iload 12, 2) := by decide +kernel
theorem dL_year_80 : decode cL_year 80 = .ok (.aload 4, 2) := by decide +kernel
theorem dL_year_82 : decode cL_year 82 = .ok (.iconst 0, 1) := by decide +kernel
theorem dL_year_83 : decode cL_year 83 = .ok (.iaload, 1) := by decide +kernel
theorem dL_year_84 : decode cL_year 84 = .ok (.if_icmp .ge 139, 3) := by decide +kernel
theorem dL_year_87 : decode cL_year 87 = .ok (.aload 7, 2) := by decide +kernel
theorem dL_year_89 : decode cL_year 89 = .ok (.iload 12, 2) := by decide +kernel
theorem dL_year_91 : decode cL_year 91 = .ok (.iaload, 1) := by decide +kernel
theorem dL_year_92 : decode cL_year 92 = .ok (.aload 8, 2) := by decide +kernel
theorem dL_year_94 : decode cL_year 94 = .ok (.iload 12, 2) := by decide +kernel
theorem dL_year_96 : decode cL_year 96 = .ok (.iaload, 1) := by decide +kernel
theorem dL_year_97 : decode cL_year 97 = .ok (.isub, 1) := by decide +kernel
theorem dL_year_98 : decode cL_year 98 = .ok (.istore 13, 2) := by decide +kernel
theorem dL_year_100 : decode cL_year 100 = .ok (.aload_n 0, 1) := by decide +kernel
theorem dL_year_101 : decode cL_year 101 = .ok (.iload 12, 2) := by decide +kernel
theorem dL_year_103 : decode cL_year 103 = .ok (.iload 6, 2) := by decide +kernel
theorem dL_year_105 : decode cL_year 105 = .ok (.invokevirtual 107, 3) := by decide +kernel
theorem dL_year_108 : decode cL_year 108 = .ok (.aload 8, 2) := by decide +kernel
theorem dL_year_110 : decode cL_year 110 = .ok (.iload 12, 2) := by decide +kernel
theorem dL_year_112 : decode cL_year 112 = .ok (.iaload, 1) := by decide +kernel
theorem dL_year_113 : decode cL_year 113 = .ok (.if_icmp .ne 92, 3) := by decide +kernel
theorem dL_year_116 : decode cL_year 116 = .ok (.aload_n 0, 1) := by decide +kernel
theorem dL_year_117 : decode cL_year 117 = .ok (.iload 12, 2) := by decide +kernel
theorem dL_year_119 : decode cL_year 119 = .ok (.iload 6, 2) := by decide +kernel
theorem dL_year_121 : decode cL_year 121 = .ok (.invokevirtual 110, 3) := by decide +kernel
theorem dL_year_124 : decode cL_year 124 = .ok (.aload 10, 2) := by decide +kernel
theorem dL_year_126 : decode cL_year 126 = .ok (.iload 12, 2) := by decide +kernel
theorem dL_year_128 : decode cL_year 128 = .ok (.iaload, 1) := by decide +kernel
theorem dL_year_129 : decode cL_year 129 = .ok (.if_icmp .ne 76, 3) := by decide +kernel
theorem dL_year_132 : decode cL_year 132 = .ok (.aload_n 0, 1) := by decide +kernel
theorem dL_year_133 : decode cL_year 133 = .ok (.iload 12, 2) := by decide +kernel
theorem dL_year_135 : decode cL_year 135 = .ok (.iload 6, 2) := by decide +kernel
theorem dL_year_137 : decode cL_year 137 = .ok (.invokevirtual 111, 3) := by decide +kernel
theorem dL_year_140 : decode cL_year 140 = .ok (.aload 10, 2) := by decide +kernel
theorem dL_year_142 : decode cL_year 142 = .ok (.iload 12, 2) := by decide +kernel
theorem dL_year_144 : decode cL_year 144 = .ok (.iaload, 1) := by decide +kernel
theorem dL_year_145 : decode cL_year 145 = .ok (.if_icmp .ne 60, 3) := by decide +kernel
theorem dL_year_148 : decode cL_year 148 = .ok (.aload_n 0, 1) := by decide +kernel
theorem dL_year_149 : decode cL_year 149 = .ok (.iload 12, 2) := by decide +kernel
theorem dL_year_151 : decode cL_year 151 = .ok (.iload 6, 2) := by decide +kernel
theorem dL_year_153 : decode cL_year 153 = .ok (.invokevirtual 114, 3) := by decide +kernel
theorem dL_year_156 : decode cL_year 156 = .ok (.aload 9, 2) := by decide +kernel
theorem dL_year_158 : decode cL_year 158 = .ok (.iload 12, 2) := by decide +kernel
theorem dL_year_160 : decode cL_year 160 = .ok (.iaload, 1) := by decide +kernel
theorem dL_year_161 : decode cL_year 161 = .ok (.if_icmp .ne 44, 3) := by decide +kernel
theorem dL_year_164 : decode cL_year 164 = .ok (.aload_n 0, 1) := by decide +kernel
theorem dL_year_165 : decode cL_year 165 = .ok (.iload 12, 2) := by decide +kernel
theorem dL_year_167 : decode cL_year 167 = .ok (.iload 6, 2) := by decide +kernel
theorem dL_year_169 : decode cL_year 169 = .ok (.invokevirtual 117, 3) := by decide +kernel
theorem dL_year_172 : decode cL_year 172 = .ok (.aload 7, 2) := by decide +kernel
theorem dL_year_174 : decode cL_year 174 = .ok (.iload 12, 2) := by decide +kernel
theorem dL_year_176 : decode cL_year 176 = .ok (.iaload, 1) := by decide +kernel
theorem dL_year_177 : decode cL_year 177 = .ok (.ifCond .lt 24, 3) := by decide +kernel
theorem dL_year_180 : decode cL_year 180 = .ok (.aload 8, 2) := by decide +kernel
theorem dL_year_182 : decode cL_year 182 = .ok (.iload 12, 2) := by decide +kernel
theorem dL_year_184 : decode cL_year 184 = .ok (.iaload, 1) := by decide +kernel
theorem dL_year_185 : decode cL_year 185 = .ok (.ifCond .lt 16, 3) := by decide +kernel
theorem dL_year_188 : decode cL_year 188 = .ok (.iload 13, 2) := by decide +kernel
theorem dL_year_190 : decode cL_year 190 = .ok (.iload 13, 2) := by decide +kernel
theorem dL_year_192 : decode cL_year 192 = .ok (.imul, 1) := by decide +kernel
theorem dL_year_193 : decode cL_year 193 = .ok (.iconst 1, 1) := by decide +kernel
theorem dL_year_194 : decode cL_year 194 = .ok (.if_icmp .ne 7, 3) := by decide +kernel
theorem dL_year_197 : decode cL_year 197 = .ok (.iconst 1, 1) := by decide +kernel
theorem dL_year_198 : decode cL_year 198 = .ok (.goto 4, 3) := by decide +kernel
theorem dL_year_201 : decode cL_year 201 = .ok (.iconst 0, 1) := by decide +kernel
theorem dL_year_202 : decode cL_year 202 = .ok (.if_icmp .eq 5, 3) := by decide +kernel
theorem dL_year_205 : decode cL_year 205 = .ok (.iconst 0, 1) := by decide +kernel
theorem dL_year_206 : decode cL_year 206 = .ok (.ireturn, 1) := by decide +kernel
theorem dL_year_207 : decode cL_year 207 = .ok (.iload 11, 2) := by decide +kernel
theorem dL_year_209 : decode cL_year 209 = .ok (.aload 9, 2) := by decide +kernel
theorem dL_year_211 : decode cL_year 211 = .ok (.iload 12, 2) := by decide +kernel
theorem dL_year_213 : decode cL_year 213 = .ok (.iaload, 1) := by decide +kernel
theorem dL_year_214 : decode cL_year 214 = .ok (.iadd, 1) := by decide +kernel
theorem dL_year_215 : decode cL_year 215 = .ok (.istore 11, 2) := by decide +kernel
theorem dL_year_217 : decode cL_year 217 = .ok (.iinc 12 1, 3) := by decide +kernel
theorem dL_year_220 : decode cL_year 220 = .ok (.goto (-142), 3) := by decide +kernel
theorem dL_year_223 : decode cL_year 223 = .ok (.aload_n 0, 1) := by decide +kernel
theorem dL_year_224 : decode cL_year 224 = .ok (.iload 6, 2) := by decide +kernel
theorem dL_year_226 : decode cL_year 226 = .ok (.invokevirtual 120, 3) := by decide +kernel
theorem dL_year_229 : decode cL_year 229 = .ok (.iload 11, 2) := by decide +kernel
theorem dL_year_231 : decode cL_year 231 = .ok (.if_icmp .ne 19, 3) := by decide +kernel
theorem dL_year_234 : decode cL_year 234 = .ok (.aload_n 0, 1) := by decide +kernel
theorem dL_year_235 : decode cL_year 235 = .ok (.iload 6, 2) := by decide +kernel
theorem dL_year_237 : decode cL_year 237 = .ok (.invokevirtual 123, 3) := by decide +kernel
theorem dL_year_240 : decode cL_year 240 = .ok (.aload 4, 2) := by decide +kernel
theorem dL_year_242 : decode cL_year 242 = .ok (.aload 8, 2) := by decide +kernel
theorem dL_year_244 : decode cL_year 244 = .ok (.invokestatic 58, 3) := by decide +kernel
theorem dL_year_247 : decode cL_year 247 = .ok (.if_icmp .eq 5, 3) := by decide +kernel
theorem dL_year_250 : decode cL_year 250 = .ok (.iconst 0, 1) := by decide +kernel
theorem dL_year_251 : decode cL_year 251 = .ok (.ireturn, 1) := by decide +kernel
theorem dL_year_252 : decode cL_year 252 = .ok (.bipush 10, 2) := by decide +kernel
theorem dL_year_254 : decode cL_year 254 = .ok (.newarray .int, 2) := by decide +kernel
theorem dL_year_256 : decode cL_year 256 = .ok (.astore 12, 2) := by decide +kernel
theorem dL_year_258 : decode cL_year 258 = .ok (.bipush 10, 2) := by decide +kernel
theorem dL_year_260 : decode cL_year 260 = .ok (.newarray .int, 2) := by decide +kernel
theorem dL_year_262 : decode cL_year 262 = .ok (.astore 13, 2) := by decide +kernel
theorem dL_year_264 : decode cL_year 264 = .ok (.iconst 0, 1) := by decide +kernel
theorem dL_year_265 : decode cL_year 265 = .ok (.istore 14, 2) := by decide +kernel
theorem dL_year_267 : decode cL_year 267 = .ok (.iconst 0, 1) := by decide +kernel
theorem dL_year_268 : decode cL_year 268 = .ok (.istore 15, 2) := by decide +kernel
theorem dL_year_270 : decode cL_year 270 = .ok (.iconst 0, 1) := by decide +kernel
theorem dL_year_271 : decode cL_year 271 = .ok (.istore 16, 2) := by decide +kernel
theorem dL_year_273 : decode cL_year 273 = .ok (.iload 16, 2) := by decide +kernel
theorem dL_year_275 : decode cL_year 275 = .ok (.iload 6, 2) := by decide +kernel
theorem dL_year_277 : decode cL_year 277 = .ok (.invokestatic 16, 3) := by decide +kernel
theorem dL_year_280 : decode cL_year 280 = .ok (.if_icmp .ge 334, 3) := by decide +kernel
theorem dL_year_283 : decode cL_year 283 = .ok (.iconst 0, 1) := by decide +kernel
theorem dL_year_284 : decode cL_year 284 = .ok (.istore 17, 2) := by decide +kernel
theorem dL_year_286 : decode cL_year 286 = .ok (.iload 17, 2) := by decide +kernel
theorem dL_year_288 : decode cL_year 288 = .ok (.aload 4, 2) := by decide +kernel
theorem dL_year_290 : decode cL_year 290 = .ok (.iconst 0, 1) := by decide +kernel
theorem dL_year_291 : decode cL_year 291 = .ok (.iaload, 1) := by decide +kernel
theorem dL_year_292 : decode cL_year 292 = .ok (.if_icmp .ge 316, 3) := by decide +kernel
theorem dL_year_295 : decode cL_year 295 = .ok (.aload 10, 2) := by decide +kernel
theorem dL_year_297 : decode cL_year 297 = .ok (.iload 17, 2) := by decide +kernel
theorem dL_year_299 : decode cL_year 299 = .ok (.iaload, 1) := by decide +kernel
theorem dL_year_300 : decode cL_year 300 = .ok (.iload 16, 2) := by decide +kernel
theorem dL_year_302 : decode cL_year 302 = .ok (.if_icmp .eq 6, 3) := by decide +kernel
theorem dL_year_305 : decode cL_year 305 = .ok (.goto 297, 3) := by decide +kernel
theorem dL_year_308 : decode cL_year 308 = .ok (.aload 7, 2) := by decide +kernel
theorem dL_year_310 : decode cL_year 310 = .ok (.iload 17, 2) := by decide +kernel
theorem dL_year_312 : decode cL_year 312 = .ok (.iaload, 1) := by decide +kernel
theorem dL_year_313 : decode cL_year 313 = .ok (.ifCond .lt 34, 3) := by decide +kernel
theorem dL_year_316 : decode cL_year 316 = .ok (.aload 7, 2) := by decide +kernel
theorem dL_year_318 : decode cL_year 318 = .ok (.iload 17, 2) := by decide +kernel
theorem dL_year_320 : decode cL_year 320 = .ok (.iaload, 1) := by decide +kernel
theorem dL_year_321 : decode cL_year 321 = .ok (.aload 8, 2) := by decide +kernel
theorem dL_year_323 : decode cL_year 323 = .ok (.iload 17, 2) := by decide +kernel
theorem dL_year_325 : decode cL_year 325 = .ok (.iaload, 1) := by decide +kernel
theorem dL_year_326 : decode cL_year 326 = .ok (.isub, 1) := by decide +kernel
theorem dL_year_327 : decode cL_year 327 = .ok (.aload 7, 2) := by decide +kernel
theorem dL_year_329 : decode cL_year 329 = .ok (.iload 17, 2) := by decide +kernel
theorem dL_year_331 : decode cL_year 331 = .ok (.iaload, 1) := by decide +kernel
theorem dL_year_332 : decode cL_year 332 = .ok (.aload 8, 2) := by decide +kernel
theorem dL_year_334 : decode cL_year 334 = .ok (.iload 17, 2) := by decide +kernel
theorem dL_year_336 : decode cL_year 336 = .ok (.iaload, 1) := by decide +kernel
theorem dL_year_337 : decode cL_year 337 = .ok (.isub, 1) := by decide +kernel
theorem dL_year_338 : decode cL_year 338 = .ok (.imul, 1) := by decide +kernel
theorem dL_year_339 : decode cL_year 339 = .ok (.iconst 1, 1) := by decide +kernel
theorem dL_year_340 : decode cL_year 340 = .ok (.if_icmp .ne 7, 3) := by decide +kernel
theorem dL_year_343 : decode cL_year 343 = .ok (.iconst 1, 1) := by decide +kernel
theorem dL_year_344 : decode cL_year 344 = .ok (.goto 4, 3) := by decide +kernel
theorem dL_year_347 : decode cL_year 347 = .ok (.iconst 0, 1) := by decide +kernel
theorem dL_year_348 : decode cL_year 348 = .ok (.istore 18, 2) := by decide +kernel
theorem dL_year_350 : decode cL_year 350 = .ok (.iconst 0, 1) := by decide +kernel
theorem dL_year_351 : decode cL_year 351 = .ok (.istore 19, 2) := by decide +kernel
theorem dL_year_353 : decode cL_year 353 = .ok (.iload 19, 2) := by decide +kernel
theorem dL_year_355 : decode cL_year 355 = .ok (.bipush 6, 2) := by decide +kernel
theorem dL_year_357 : decode cL_year 357 = .ok (.if_icmp .ge 245, 3) := by decide +kernel
theorem dL_year_360 : decode cL_year 360 = .ok (.iconst 0, 1) := by decide +kernel
theorem dL_year_361 : decode cL_year 361 = .ok (.istore 20, 2) := by decide +kernel
theorem dL_year_363 : decode cL_year 363 = .ok (.iload 20, 2) := by decide +kernel
theorem dL_year_365 : decode cL_year 365 = .ok (.bipush 6, 2) := by decide +kernel
theorem dL_year_367 : decode cL_year 367 = .ok (.if_icmp .ge 229, 3) := by decide +kernel
theorem dL_year_370 : decode cL_year 370 = .ok (.iconst (-1), 1) := by decide +kernel
theorem dL_year_371 : decode cL_year 371 = .ok (.istore 21, 2) := by decide +kernel
theorem dL_year_373 : decode cL_year 373 = .ok (.iload 20, 2) := by decide +kernel
theorem dL_year_375 : decode cL_year 375 = .ok (.aload 5, 2) := by decide +kernel
theorem dL_year_377 : decode cL_year 377 = .ok (.iload 19, 2) := by decide +kernel
theorem dL_year_379 : decode cL_year 379 = .ok (.iaload, 1) := by decide +kernel
theorem dL_year_380 : decode cL_year 380 = .ok (.if_icmp .ge 18, 3) := by decide +kernel
theorem dL_year_383 : decode cL_year 383 = .ok (.iload 20, 2) := by decide +kernel
theorem dL_year_385 : decode cL_year 385 = .ok (.aload_n 2, 1) := by decide +kernel
theorem dL_year_386 : decode cL_year 386 = .ok (.iload 17, 2) := by decide +kernel
theorem dL_year_388 : decode cL_year 388 = .ok (.iaload, 1) := by decide +kernel
theorem dL_year_389 : decode cL_year 389 = .ok (.iconst 2, 1) := by decide +kernel
theorem dL_year_390 : decode cL_year 390 = .ok (.idiv, 1) := by decide +kernel
theorem dL_year_391 : decode cL_year 391 = .ok (.if_icmp .ge 7, 3) := by decide +kernel
theorem dL_year_394 : decode cL_year 394 = .ok (.iconst 1, 1) := by decide +kernel
theorem dL_year_395 : decode cL_year 395 = .ok (.goto 4, 3) := by decide +kernel
theorem dL_year_398 : decode cL_year 398 = .ok (.iconst 0, 1) := by decide +kernel
theorem dL_year_399 : decode cL_year 399 = .ok (.istore 22, 2) := by decide +kernel
theorem dL_year_401 : decode cL_year 401 = .ok (.iconst 0, 1) := by decide +kernel
theorem dL_year_402 : decode cL_year 402 = .ok (.istore 23, 2) := by decide +kernel
theorem dL_year_404 : decode cL_year 404 = .ok (.iload 23, 2) := by decide +kernel
theorem dL_year_406 : decode cL_year 406 = .ok (.aload 4, 2) := by decide +kernel
theorem dL_year_408 : decode cL_year 408 = .ok (.iconst 3, 1) := by decide +kernel
theorem dL_year_409 : decode cL_year 409 = .ok (.iaload, 1) := by decide +kernel
theorem dL_year_410 : decode cL_year 410 = .ok (.if_icmp .ge 83, 3) := by decide +kernel
theorem dL_year_413 : decode cL_year 413 = .ok (.iload 22, 2) := by decide +kernel
theorem dL_year_415 : decode cL_year 415 = .ok (.ifCond .eq 78, 3) := by decide +kernel
theorem dL_year_418 : decode cL_year 418 = .ok (.aload 5, 2) := by decide +kernel
theorem dL_year_420 : decode cL_year 420 = .ok (.bipush 6, 2) := by decide +kernel
theorem dL_year_422 : decode cL_year 422 = .ok (.iconst 2, 1) := by decide +kernel
theorem dL_year_423 : decode cL_year 423 = .ok (.iload 23, 2) := by decide +kernel
theorem dL_year_425 : decode cL_year 425 = .ok (.imul, 1) := by decide +kernel
theorem dL_year_426 : decode cL_year 426 = .ok (.iadd, 1) := by decide +kernel
theorem dL_year_427 : decode cL_year 427 = .ok (.iaload, 1) := by decide +kernel
theorem dL_year_428 : decode cL_year 428 = .ok (.iload 19, 2) := by decide +kernel
theorem dL_year_430 : decode cL_year 430 = .ok (.if_icmp .ne 57, 3) := by decide +kernel
theorem dL_year_433 : decode cL_year 433 = .ok (.aload 12, 2) := by decide +kernel
theorem dL_year_435 : decode cL_year 435 = .ok (.iload 23, 2) := by decide +kernel
theorem dL_year_437 : decode cL_year 437 = .ok (.iaload, 1) := by decide +kernel
theorem dL_year_438 : decode cL_year 438 = .ok (.ifCond .le 27, 3) := by decide +kernel
theorem dL_year_441 : decode cL_year 441 = .ok (.iload 16, 2) := by decide +kernel
theorem dL_year_443 : decode cL_year 443 = .ok (.aload 13, 2) := by decide +kernel
theorem dL_year_445 : decode cL_year 445 = .ok (.iload 23, 2) := by decide +kernel
theorem dL_year_447 : decode cL_year 447 = .ok (.iaload, 1) := by decide +kernel
theorem dL_year_448 : decode cL_year 448 = .ok (.isub, 1) := by decide +kernel
theorem dL_year_449 : decode cL_year 449 = .ok (.aload 5, 2) := by decide +kernel
theorem dL_year_451 : decode cL_year 451 = .ok (.bipush 7, 2) := by decide +kernel
theorem dL_year_453 : decode cL_year 453 = .ok (.iconst 2, 1) := by decide +kernel
theorem dL_year_454 : decode cL_year 454 = .ok (.iload 23, 2) := by decide +kernel
theorem dL_year_456 : decode cL_year 456 = .ok (.imul, 1) := by decide +kernel
theorem dL_year_457 : decode cL_year 457 = .ok (.iadd, 1) := by decide +kernel
theorem dL_year_458 : decode cL_year 458 = .ok (.iaload, 1) := by decide +kernel
theorem dL_year_459 : decode cL_year 459 = .ok (.if_icmp .gt 6, 3) := by decide +kernel
theorem dL_year_462 : decode cL_year 462 = .ok (.goto 25, 3) := by decide +kernel
theorem dL_year_465 : decode cL_year 465 = .ok (.iload 21, 2) := by decide +kernel
theorem dL_year_467 : decode cL_year 467 = .ok (.ifCond .lt 16, 3) := by decide +kernel
theorem dL_year_470 : decode cL_year 470 = .ok (.aload 12, 2) := by decide +kernel
theorem dL_year_472 : decode cL_year 472 = .ok (.iload 23, 2) := by decide +kernel
theorem dL_year_474 : decode cL_year 474 = .ok (.iaload, 1) := by decide +kernel
theorem dL_year_475 : decode cL_year 475 = .ok (.aload 12, 2) := by decide +kernel
theorem dL_year_477 : decode cL_year 477 = .ok (.iload 21, 2) := by decide +kernel
theorem dL_year_479 : decode cL_year 479 = .ok (.iaload, 1) := by decide +kernel
theorem dL_year_480 : decode cL_year 480 = .ok (.if_icmp .ge 7, 3) := by decide +kernel
theorem dL_year_483 : decode cL_year 483 = .ok (.iload 23, 2) := by decide +kernel
theorem dL_year_485 : decode cL_year 485 = .ok (.istore 21, 2) := by decide +kernel
theorem dL_year_487 : decode cL_year 487 = .ok (.iinc 23 1, 3) := by decide +kernel
theorem dL_year_490 : decode cL_year 490 = .ok (.goto (-86), 3) := by decide +kernel
theorem dL_year_493 : decode cL_year 493 = .ok (.iload 15, 2) := by decide +kernel
theorem dL_year_495 : decode cL_year 495 = .ok (.bipush 12, 2) := by decide +kernel
theorem dL_year_497 : decode cL_year 497 = .ok (.if_icmp .ge 46, 3) := by decide +kernel
theorem dL_year_500 : decode cL_year 500 = .ok (.iload 22, 2) := by decide +kernel
theorem dL_year_502 : decode cL_year 502 = .ok (.ifCond .ne 19, 3) := by decide +kernel
theorem dL_year_505 : decode cL_year 505 = .ok (.iload 20, 2) := by decide +kernel
theorem dL_year_507 : decode cL_year 507 = .ok (.iconst 5, 1) := by decide +kernel
theorem dL_year_508 : decode cL_year 508 = .ok (.if_icmp .ne 35, 3) := by decide +kernel
theorem dL_year_511 : decode cL_year 511 = .ok (.iload 19, 2) := by decide +kernel
theorem dL_year_513 : decode cL_year 513 = .ok (.iload 17, 2) := by decide +kernel
theorem dL_year_515 : decode cL_year 515 = .ok (.bipush 6, 2) := by decide +kernel
theorem dL_year_517 : decode cL_year 517 = .ok (.irem, 1) := by decide +kernel
theorem dL_year_518 : decode cL_year 518 = .ok (.if_icmp .ne 25, 3) := by decide +kernel
theorem dL_year_521 : decode cL_year 521 = .ok (.aload_n 0, 1) := by decide +kernel
theorem dL_year_522 : decode cL_year 522 = .ok (.iload 17, 2) := by decide +kernel
theorem dL_year_524 : decode cL_year 524 = .ok (.iload 6, 2) := by decide +kernel
theorem dL_year_526 : decode cL_year 526 = .ok (.iload 19, 2) := by decide +kernel
theorem dL_year_528 : decode cL_year 528 = .ok (.iload 20, 2) := by decide +kernel
theorem dL_year_530 : decode cL_year 530 = .ok (.invokevirtual 125, 3) := by decide +kernel
theorem dL_year_533 : decode cL_year 533 = .ok (.iload 21, 2) := by decide +kernel
theorem dL_year_535 : decode cL_year 535 = .ok (.if_icmp .eq 5, 3) := by decide +kernel
theorem dL_year_538 : decode cL_year 538 = .ok (.iconst 0, 1) := by decide +kernel
theorem dL_year_539 : decode cL_year 539 = .ok (.ireturn, 1) := by decide +kernel
theorem dL_year_540 : decode cL_year 540 = .ok (.iinc 15 1, 3) := by decide +kernel
theorem dL_year_543 : decode cL_year 543 = .ok (.iload 14, 2) := by decide +kernel
theorem dL_year_545 : decode cL_year 545 = .ok (.iload 22, 2) := by decide +kernel
theorem dL_year_547 : decode cL_year 547 = .ok (.ifCond .eq 12, 3) := by decide +kernel
theorem dL_year_550 : decode cL_year 550 = .ok (.iload 21, 2) := by decide +kernel
theorem dL_year_552 : decode cL_year 552 = .ok (.ifCond .ge 7, 3) := by decide +kernel
theorem dL_year_555 : decode cL_year 555 = .ok (.iconst 1, 1) := by decide +kernel
theorem dL_year_556 : decode cL_year 556 = .ok (.goto 4, 3) := by decide +kernel
theorem dL_year_559 : decode cL_year 559 = .ok (.iconst 0, 1) := by decide +kernel
theorem dL_year_560 : decode cL_year 560 = .ok (.iadd, 1) := by decide +kernel
theorem dL_year_561 : decode cL_year 561 = .ok (.istore 14, 2) := by decide +kernel
theorem dL_year_563 : decode cL_year 563 = .ok (.iload 21, 2) := by decide +kernel
theorem dL_year_565 : decode cL_year 565 = .ok (.ifCond .ge 6, 3) := by decide +kernel
theorem dL_year_568 : decode cL_year 568 = .ok (.goto 22, 3) := by decide +kernel
theorem dL_year_571 : decode cL_year 571 = .ok (.aload 12, 2) := by decide +kernel
theorem dL_year_573 : decode cL_year 573 = .ok (.iload 21, 2) := by decide +kernel
theorem dL_year_575 : decode cL_year 575 = .ok (.dup2, 1) := by decide +kernel
theorem dL_year_576 : decode cL_year 576 = .ok (.iaload, 1) := by decide +kernel
theorem dL_year_577 : decode cL_year 577 = .ok (.iconst 1, 1) := by decide +kernel
theorem dL_year_578 : decode cL_year 578 = .ok (.iadd, 1) := by decide +kernel
theorem dL_year_579 : decode cL_year 579 = .ok (.iastore, 1) := by decide +kernel
theorem dL_year_580 : decode cL_year 580 = .ok (.aload 13, 2) := by decide +kernel
theorem dL_year_582 : decode cL_year 582 = .ok (.iload 21, 2) := by decide +kernel
theorem dL_year_584 : decode cL_year 584 = .ok (.iload 16, 2) := by decide +kernel
theorem dL_year_586 : decode cL_year 586 = .ok (.iload 18, 2) := by decide +kernel
theorem dL_year_588 : decode cL_year 588 = .ok (.iadd, 1) := by decide +kernel
theorem dL_year_589 : decode cL_year 589 = .ok (.iastore, 1) := by decide +kernel
theorem dL_year_590 : decode cL_year 590 = .ok (.iinc 20 1, 3) := by decide +kernel
theorem dL_year_593 : decode cL_year 593 = .ok (.goto (-230), 3) := by decide +kernel
theorem dL_year_596 : decode cL_year 596 = .ok (.iinc 19 1, 3) := by decide +kernel
theorem dL_year_599 : decode cL_year 599 = .ok (.goto (-246), 3) := by decide +kernel
theorem dL_year_602 : decode cL_year 602 = .ok (.iinc 17 1, 3) := by decide +kernel
theorem dL_year_605 : decode cL_year 605 = .ok (.goto (-319), 3) := by decide +kernel
theorem dL_year_608 : decode cL_year 608 = .ok (.iinc 16 1, 3) := by decide +kernel
theorem dL_year_611 : decode cL_year 611 = .ok (.goto (-338), 3) := by decide +kernel
theorem dL_year_614 : decode cL_year 614 = .ok (.iconst 0, 1) := by decide +kernel
theorem dL_year_615 : decode cL_year 615 = .ok (.istore 16, 2) := by decide +kernel
theorem dL_year_617 : decode cL_year 617 = .ok (.iload 16, 2) := by decide +kernel
theorem dL_year_619 : decode cL_year 619 = .ok (.aload 4, 2) := by decide +kernel
theorem dL_year_621 : decode cL_year 621 = .ok (.iconst 3, 1) := by decide +kernel
theorem dL_year_622 : decode cL_year 622 = .ok (.iaload, 1) := by decide +kernel
theorem dL_year_623 : decode cL_year 623 = .ok (.if_icmp .ge 27, 3) := by decide +kernel
theorem dL_year_626 : decode cL_year 626 = .ok (.aload_n 0, 1) := by decide +kernel
theorem dL_year_627 : decode cL_year 627 = .ok (.iload 16, 2) := by decide +kernel
theorem dL_year_629 : decode cL_year 629 = .ok (.iload 6, 2) := by decide +kernel
theorem dL_year_631 : decode cL_year 631 = .ok (.invokevirtual 128, 3) := by decide +kernel
theorem dL_year_634 : decode cL_year 634 = .ok (.aload 12, 2) := by decide +kernel
theorem dL_year_636 : decode cL_year 636 = .ok (.iload 16, 2) := by decide +kernel
theorem dL_year_638 : decode cL_year 638 = .ok (.iaload, 1) := by decide +kernel
theorem dL_year_639 : decode cL_year 639 = .ok (.if_icmp .eq 5, 3) := by decide +kernel
theorem dL_year_642 : decode cL_year 642 = .ok (.iconst 0, 1) := by decide +kernel
theorem dL_year_643 : decode cL_year 643 = .ok (.ireturn, 1) := by decide +kernel
theorem dL_year_644 : decode cL_year 644 = .ok (.iinc 16 1, 3) := by decide +kernel
theorem dL_year_647 : decode cL_year 647 = .ok (.goto (-30), 3) := by decide +kernel
theorem dL_year_650 : decode cL_year 650 = .ok (.aload_n 0, 1) := by decide +kernel
theorem dL_year_651 : decode cL_year 651 = .ok (.iload 6, 2) := by decide +kernel
theorem dL_year_653 : decode cL_year 653 = .ok (.invokevirtual 131, 3) := by decide +kernel
theorem dL_year_656 : decode cL_year 656 = .ok (.iload 14, 2) := by decide +kernel
theorem dL_year_658 : decode cL_year 658 = .ok (.if_icmp .ne 96, 3) := by decide +kernel
theorem dL_year_661 : decode cL_year 661 = .ok (.aload_n 0, 1) := by decide +kernel
theorem dL_year_662 : decode cL_year 662 = .ok (.iload 6, 2) := by decide +kernel
theorem dL_year_664 : decode cL_year 664 = .ok (.invokevirtual 134, 3) := by decide +kernel
theorem dL_year_667 : decode cL_year 667 = .ok (.iload 6, 2) := by decide +kernel
theorem dL_year_669 : decode cL_year 669 = .ok (.invokestatic 31, 3) := by decide +kernel
theorem dL_year_672 : decode cL_year 672 = .ok (.if_icmp .ne 82, 3) := by decide +kernel
theorem dL_year_675 : decode cL_year 675 = .ok (.aload_n 0, 1) := by decide +kernel
theorem dL_year_676 : decode cL_year 676 = .ok (.iload 6, 2) := by decide +kernel
theorem dL_year_678 : decode cL_year 678 = .ok (.invokestatic 31, 3) := by decide +kernel
theorem dL_year_681 : decode cL_year 681 = .ok (.aload 4, 2) := by decide +kernel
theorem dL_year_683 : decode cL_year 683 = .ok (.iconst 2, 1) := by decide +kernel
theorem dL_year_684 : decode cL_year 684 = .ok (.iaload, 1) := by decide +kernel
theorem dL_year_685 : decode cL_year 685 = .ok (.invokevirtual 136, 3) := by decide +kernel
theorem dL_year_688 : decode cL_year 688 = .ok (.iload 6, 2) := by decide +kernel
theorem dL_year_690 : decode cL_year 690 = .ok (.invokestatic 31, 3) := by decide +kernel
theorem dL_year_693 : decode cL_year 693 = .ok (.aload 4, 2) := by decide +kernel
theorem dL_year_695 : decode cL_year 695 = .ok (.iconst 2, 1) := by decide +kernel
theorem dL_year_696 : decode cL_year 696 = .ok (.iaload, 1) := by decide +kernel
theorem dL_year_697 : decode cL_year 697 = .ok (.invokestatic 37, 3) := by decide +kernel
theorem dL_year_700 : decode cL_year 700 = .ok (.if_icmp .ne 54, 3) := by decide +kernel
theorem dL_year_703 : decode cL_year 703 = .ok (.aload_n 0, 1) := by decide +kernel
theorem dL_year_704 : decode cL_year 704 = .ok (.iload 6, 2) := by decide +kernel
theorem dL_year_706 : decode cL_year 706 = .ok (.sipush 364, 3) := by decide +kernel
theorem dL_year_709 : decode cL_year 709 = .ok (.invokevirtual 137, 3) := by decide +kernel
theorem dL_year_712 : decode cL_year 712 = .ok (.iload 6, 2) := by decide +kernel
theorem dL_year_714 : decode cL_year 714 = .ok (.sipush 364, 3) := by decide +kernel
theorem dL_year_717 : decode cL_year 717 = .ok (.invokestatic 40, 3) := by decide +kernel
theorem dL_year_720 : decode cL_year 720 = .ok (.if_icmp .ne 34, 3) := by decide +kernel
theorem dL_year_723 : decode cL_year 723 = .ok (.aload_n 0, 1) := by decide +kernel
theorem dL_year_724 : decode cL_year 724 = .ok (.iload 6, 2) := by decide +kernel
theorem dL_year_726 : decode cL_year 726 = .ok (.sipush 365, 3) := by decide +kernel
theorem dL_year_729 : decode cL_year 729 = .ok (.invokevirtual 137, 3) := by decide +kernel
theorem dL_year_732 : decode cL_year 732 = .ok (.iload 6, 2) := by decide +kernel
theorem dL_year_734 : decode cL_year 734 = .ok (.invokestatic 10, 3) := by decide +kernel
theorem dL_year_737 : decode cL_year 737 = .ok (.ifCond .eq 9, 3) := by decide +kernel
theorem dL_year_740 : decode cL_year 740 = .ok (.sipush 1231, 3) := by decide +kernel
theorem dL_year_743 : decode cL_year 743 = .ok (.goto 4, 3) := by decide +kernel
theorem dL_year_746 : decode cL_year 746 = .ok (.iconst (-1), 1) := by decide +kernel
theorem dL_year_747 : decode cL_year 747 = .ok (.if_icmp .ne 7, 3) := by decide +kernel
theorem dL_year_750 : decode cL_year 750 = .ok (.iconst 1, 1) := by decide +kernel
theorem dL_year_751 : decode cL_year 751 = .ok (.goto 4, 3) := by decide +kernel
theorem dL_year_754 : decode cL_year 754 = .ok (.iconst 0, 1) := by decide +kernel
theorem dL_year_755 : decode cL_year 755 = .ok (.ireturn, 1) := by decide +kernel
theorem dL_law_0 : decode cL_law 0 = .ok (.new 63, 3) := by decide +kernel
theorem dL_law_3 : decode cL_law 3 = .ok (.dup, 1) := by decide +kernel
theorem dL_law_4 : decode cL_law 4 = .ok (.invokespecial 138, 3) := by decide +kernel
theorem dL_law_7 : decode cL_law 7 = .ok (.astore_n 1, 1) := by decide +kernel
theorem dL_law_8 : decode cL_law 8 = .ok (.bipush 60, 2) := by decide +kernel
theorem dL_law_10 : decode cL_law 10 = .ok (.newarray .int, 2) := by decide +kernel
theorem dL_law_12 : decode cL_law 12 = .ok (.astore_n 2, 1) := by decide +kernel
theorem dL_law_13 : decode cL_law 13 = .ok (.bipush 10, 2) := by decide +kernel
theorem dL_law_15 : decode cL_law 15 = .ok (.newarray .int, 2) := by decide +kernel
theorem dL_law_17 : decode cL_law 17 = .ok (.astore_n 3, 1) := by decide +kernel
theorem dL_law_18 : decode cL_law 18 = .ok (.bipush 30, 2) := by decide +kernel
theorem dL_law_20 : decode cL_law 20 = .ok (.newarray .int, 2) := by decide +kernel
theorem dL_law_22 : decode cL_law 22 = .ok (.astore 4, 2) := by decide +kernel
theorem dL_law_24 : decode cL_law 24 = .ok (.bipush 6, 2) := by decide +kernel
theorem dL_law_26 : decode cL_law 26 = .ok (.newarray .int, 2) := by decide +kernel
theorem dL_law_28 : decode cL_law 28 = .ok (.astore 5, 2) := by decide +kernel
theorem dL_law_30 : decode cL_law 30 = .ok (.bipush 9, 2) := by decide +kernel
theorem dL_law_32 : decode cL_law 32 = .ok (.newarray .int, 2) := by decide +kernel
theorem dL_law_34 : decode cL_law 34 = .ok (.astore 6, 2) := by decide +kernel
theorem dL_law_36 : decode cL_law 36 = .ok (.bipush 26, 2) := by decide +kernel
theorem dL_law_38 : decode cL_law 38 = .ok (.newarray .int, 2) := by decide +kernel
theorem dL_law_40 : decode cL_law 40 = .ok (.astore 7, 2) := by decide +kernel
theorem dL_law_42 : decode cL_law 42 = .ok (.aload 5, 2) := by decide +kernel
theorem dL_law_44 : decode cL_law 44 = .ok (.iconst 4, 1) := by decide +kernel
theorem dL_law_45 : decode cL_law 45 = .ok (.iconst (-1), 1) := by decide +kernel
theorem dL_law_46 : decode cL_law 46 = .ok (.iastore, 1) := by decide +kernel
theorem dL_law_47 : decode cL_law 47 = .ok (.iconst 0, 1) := by decide +kernel
theorem dL_law_48 : decode cL_law 48 = .ok (.istore 8, 2) := by decide +kernel
theorem dL_law_50 : decode cL_law 50 = .ok (.iload 8, 2) := by decide +kernel
theorem dL_law_52 : decode cL_law 52 = .ok (.bipush 28, 2) := by decide +kernel
theorem dL_law_54 : decode cL_law 54 = .ok (.if_icmp .ge 1906, 3) := by decide +kernel
theorem dL_law_57 : decode cL_law 57 = .ok (.aload_n 0, 1) := by decide +kernel
theorem dL_law_58 : decode cL_law 58 = .ok (.iconst 3, 1) := by decide +kernel
theorem dL_law_59 : decode cL_law 59 = .ok (.iload 8, 2) := by decide +kernel
theorem dL_law_61 : decode cL_law 61 = .ok (.imul, 1) := by decide +kernel
theorem dL_law_62 : decode cL_law 62 = .ok (.invokestatic 139, 3) := by decide +kernel
theorem dL_law_65 : decode cL_law 65 = .ok (.istore 9, 2) := by decide +kernel
theorem dL_law_67 : decode cL_law 67 = .ok (.aload_n 0, 1) := by decide +kernel
theorem dL_law_68 : decode cL_law 68 = .ok (.iconst 3, 1) := by decide +kernel
theorem dL_law_69 : decode cL_law 69 = .ok (.iload 8, 2) := by decide +kernel
theorem dL_law_71 : decode cL_law 71 = .ok (.imul, 1) := by decide +kernel
theorem dL_law_72 : decode cL_law 72 = .ok (.iconst 1, 1) := by decide +kernel
theorem dL_law_73 : decode cL_law 73 = .ok (.iadd, 1) := by decide +kernel
theorem dL_law_74 : decode cL_law 74 = .ok (.invokestatic 139, 3) := by decide +kernel
theorem dL_law_77 : decode cL_law 77 = .ok (.istore 10, 2) := by decide +kernel
theorem dL_law_79 : decode cL_law 79 = .ok (.aload_n 0, 1) := by decide +kernel
theorem dL_law_80 : decode cL_law 80 = .ok (.iconst 3, 1) := by decide +kernel
theorem dL_law_81 : decode cL_law 81 = .ok (.iload 8, 2) := by decide +kernel
theorem dL_law_83 : decode cL_law 83 = .ok (.imul, 1) := by decide +kernel
theorem dL_law_84 : decode cL_law 84 = .ok (.iconst 2, 1) := by decide +kernel
theorem dL_law_85 : decode cL_law 85 = .ok (.iadd, 1) := by decide +kernel
theorem dL_law_86 : decode cL_law 86 = .ok (.invokestatic 139, 3) := by decide +kernel
theorem dL_law_89 : decode cL_law 89 = .ok (.istore 11, 2) := by decide +kernel
theorem dL_law_91 : decode cL_law 91 = .ok (.iload 8, 2) := by decide +kernel
theorem dL_law_93 : decode cL_law 93 = .ok (.iconst 2, 1) := by decide +kernel
theorem dL_law_94 : decode cL_law 94 = .ok (.if_icmp .ge 7, 3) := by decide +kernel
theorem dL_law_97 : decode cL_law 97 = .ok (.iconst 0, 1) := by decide +kernel
theorem dL_law_98 : decode cL_law 98 = .ok (.goto 10, 3) := by decide +kernel
theorem dL_law_101 : decode cL_law 101 = .ok (.iload 9, 2) := by decide +kernel
theorem dL_law_103 : decode cL_law 103 = .ok (.bipush 14, 2) := by decide +kernel
theorem dL_law_105 : decode cL_law 105 = .ok (.invokestatic 76, 3) := by decide +kernel
theorem dL_law_108 : decode cL_law 108 = .ok (.istore 12, 2) := by decide +kernel
theorem dL_law_110 : decode cL_law 110 = .ok (.aload 5, 2) := by decide +kernel
theorem dL_law_112 : decode cL_law 112 = .ok (.iconst 0, 1) := by decide +kernel
theorem dL_law_113 : decode cL_law 113 = .ok (.iaload, 1) := by decide +kernel
theorem dL_law_114 : decode cL_law 114 = .ok (.ifCond .ne 7, 3) := by decide +kernel
theorem dL_law_117 : decode cL_law 117 = .ok (.iconst 0, 1) := by decide +kernel
theorem dL_law_118 : decode cL_law 118 = .ok (.goto 14, 3) := by decide +kernel
theorem dL_law_121 : decode cL_law 121 = .ok (.iload 9, 2) := by decide +kernel
theorem dL_law_123 : decode cL_law 123 = .ok (.iconst 5, 1) := by decide +kernel
theorem dL_law_124 : decode cL_law 124 = .ok (.ishr, 1) := by decide +kernel
theorem dL_law_125 : decode cL_law 125 = .ok (.aload 5, 2) := by decide +kernel
theorem dL_law_127 : decode cL_law 127 = .ok (.iconst 0, 1) := by decide +kernel
theorem dL_law_128 : decode cL_law 128 = .ok (.iaload, 1) := by decide +kernel
theorem dL_law_129 : decode cL_law 129 = .ok (.invokestatic 76, 3) := by decide +kernel
theorem dL_law_132 : decode cL_law 132 = .ok (.istore 13, 2) := by decide +kernel
theorem dL_law_134 : decode cL_law 134 = .ok (.iload 11, 2) := by decide +kernel
theorem dL_law_136 : decode cL_law 136 = .ok (.iconst 3, 1) := by decide +kernel
theorem dL_law_137 : decode cL_law 137 = .ok (.ishr, 1) := by decide +kernel
theorem dL_law_138 : decode cL_law 138 = .ok (.sipush 400, 3) := by decide +kernel
theorem dL_law_141 : decode cL_law 141 = .ok (.invokestatic 76, 3) := by decide +kernel
theorem dL_law_144 : decode cL_law 144 = .ok (.istore 14, 2) := by decide +kernel
theorem dL_law_146 : decode cL_law 146 = .ok (.iload 12, 2) := by decide +kernel
theorem dL_law_148 : decode cL_law 148 = .ok (.iconst 5, 1) := by decide +kernel
theorem dL_law_149 : decode cL_law 149 = .ok (.if_icmp .ge 541, 3) := by decide +kernel
theorem dL_law_152 : decode cL_law 152 = .ok (.aload 5, 2) := by decide +kernel
theorem dL_law_154 : decode cL_law 154 = .ok (.iconst 0, 1) := by decide +kernel
theorem dL_law_155 : decode cL_law 155 = .ok (.iaload, 1) := by decide +kernel
theorem dL_law_156 : decode cL_law 156 = .ok (.bipush 10, 2) := by decide +kernel
theorem dL_law_158 : decode cL_law 158 = .ok (.if_icmp .ne 6, 3) := by decide +kernel
theorem dL_law_161 : decode cL_law 161 = .ok (.goto 1793, 3) := by decide +kernel
theorem dL_law_164 : decode cL_law 164 = .ok (.bipush 6, 2) := by decide +kernel
theorem dL_law_166 : decode cL_law 166 = .ok (.aload 5, 2) := by decide +kernel
theorem dL_law_168 : decode cL_law 168 = .ok (.iconst 0, 1) := by decide +kernel
theorem dL_law_169 : decode cL_law 169 = .ok (.iaload, 1) := by decide +kernel
theorem dL_law_170 : decode cL_law 170 = .ok (.imul, 1) := by decide +kernel
theorem dL_law_171 : decode cL_law 171 = .ok (.istore 15, 2) := by decide +kernel
theorem dL_law_173 : decode cL_law 173 = .ok (.iload 9, 2) := by decide +kernel
theorem dL_law_175 : decode cL_law 175 = .ok (.bipush 7, 2) := by decide +kernel
theorem dL_law_177 : decode cL_law 177 = .ok (.ishr, 1) := by decide +kernel
theorem dL_law_178 : decode cL_law 178 = .ok (.aload 5, 2) := by decide +kernel
theorem dL_law_180 : decode cL_law 180 = .ok (.iconst 0, 1) := by decide +kernel
theorem dL_law_181 : decode cL_law 181 = .ok (.iaload, 1) := by decide +kernel
theorem dL_law_182 : decode cL_law 182 = .ok (.ifCond .le 7, 3) := by decide +kernel
theorem dL_law_185 : decode cL_law 185 = .ok (.iconst 5, 1) := by decide +kernel
theorem dL_law_186 : decode cL_law 186 = .ok (.goto 4, 3) := by decide +kernel
theorem dL_law_189 : decode cL_law 189 = .ok (.iconst 3, 1) := by decide +kernel
theorem dL_law_190 : decode cL_law 190 = .ok (.invokestatic 76, 3) := by decide +kernel
theorem dL_law_193 : decode cL_law 193 = .ok (.istore 16, 2) := by decide +kernel
theorem dL_law_195 : decode cL_law 195 = .ok (.aload_n 2, 1) := by decide +kernel
theorem dL_law_196 : decode cL_law 196 = .ok (.iload 15, 2) := by decide +kernel
theorem dL_law_198 : decode cL_law 198 = .ok (.iload 16, 2) := by decide +kernel
theorem dL_law_200 : decode cL_law 200 = .ok (.ifCond .ne 15, 3) := by decide +kernel
theorem dL_law_203 : decode cL_law 203 = .ok (.sipush 10000, 3) := by decide +kernel
theorem dL_law_206 : decode cL_law 206 = .ok (.iload 10, 2) := by decide +kernel
theorem dL_law_208 : decode cL_law 208 = .ok (.invokestatic 143, 3) := by decide +kernel
theorem dL_law_211 : decode cL_law 211 = .ok (.iadd, 1) := by decide +kernel
theorem dL_law_212 : decode cL_law 212 = .ok (.goto 97, 3) := by decide +kernel
theorem dL_law_215 : decode cL_law 215 = .ok (.iload 16, 2) := by decide +kernel
theorem dL_law_217 : decode cL_law 217 = .ok (.iconst 1, 1) := by decide +kernel
theorem dL_law_218 : decode cL_law 218 = .ok (.if_icmp .ne 48, 3) := by decide +kernel
theorem dL_law_221 : decode cL_law 221 = .ok (.sipush 20000, 3) := by decide +kernel
theorem dL_law_224 : decode cL_law 224 = .ok (.sipush 1000, 3) := by decide +kernel
theorem dL_law_227 : decode cL_law 227 = .ok (.iconst 1, 1) := by decide +kernel
theorem dL_law_228 : decode cL_law 228 = .ok (.iload 10, 2) := by decide +kernel
theorem dL_law_230 : decode cL_law 230 = .ok (.iconst 5, 1) := by decide +kernel
theorem dL_law_231 : decode cL_law 231 = .ok (.invokestatic 76, 3) := by decide +kernel
theorem dL_law_234 : decode cL_law 234 = .ok (.iadd, 1) := by decide +kernel
theorem dL_law_235 : decode cL_law 235 = .ok (.imul, 1) := by decide +kernel
theorem dL_law_236 : decode cL_law 236 = .ok (.iadd, 1) := by decide +kernel
theorem dL_law_237 : decode cL_law 237 = .ok (.bipush 100, 2) := by decide +kernel
theorem dL_law_239 : decode cL_law 239 = .ok (.iload 10, 2) := by decide +kernel
theorem dL_law_241 : decode cL_law 241 = .ok (.iconst 3, 1) := by decide +kernel
theorem dL_law_242 : decode cL_law 242 = .ok (.ishr, 1) := by decide +kernel
theorem dL_law_243 : decode cL_law 243 = .ok (.bipush 7, 2) := by decide +kernel
theorem dL_law_245 : decode cL_law 245 = .ok (.invokestatic 76, 3) := by decide +kernel
theorem dL_law_248 : decode cL_law 248 = .ok (.imul, 1) := by decide +kernel
theorem dL_law_249 : decode cL_law 249 = .ok (.iadd, 1) := by decide +kernel
theorem dL_law_250 : decode cL_law 250 = .ok (.iconst 1, 1) := by decide +kernel
theorem dL_law_251 : decode cL_law 251 = .ok (.iadd, 1) := by decide +kernel
theorem dL_law_252 : decode cL_law 252 = .ok (.iload 10, 2) := by decide +kernel
theorem dL_law_254 : decode cL_law 254 = .ok (.bipush 6, 2) := by decide +kernel
theorem dL_law_256 : decode cL_law 256 = .ok (.ishr, 1) := by decide +kernel
theorem dL_law_257 : decode cL_law 257 = .ok (.bipush 12, 2) := by decide +kernel
theorem dL_law_259 : decode cL_law 259 = .ok (.invokestatic 76, 3) := by decide +kernel
theorem dL_law_262 : decode cL_law 262 = .ok (.iadd, 1) := by decide +kernel
theorem dL_law_263 : decode cL_law 263 = .ok (.goto 46, 3) := by decide +kernel
theorem dL_law_266 : decode cL_law 266 = .ok (.iload 16, 2) := by decide +kernel
theorem dL_law_268 : decode cL_law 268 = .ok (.iconst 2, 1) := by decide +kernel
theorem dL_law_269 : decode cL_law 269 = .ok (.if_icmp .ne 35, 3) := by decide +kernel
theorem dL_law_272 : decode cL_law 272 = .ok (.sipush 30000, 3) := by decide +kernel
theorem dL_law_275 : decode cL_law 275 = .ok (.bipush 100, 2) := by decide +kernel
theorem dL_law_277 : decode cL_law 277 = .ok (.iload 10, 2) := by decide +kernel
theorem dL_law_279 : decode cL_law 279 = .ok (.iconst 3, 1) := by decide +kernel
theorem dL_law_280 : decode cL_law 280 = .ok (.ishr, 1) := by decide +kernel
theorem dL_law_281 : decode cL_law 281 = .ok (.bipush 7, 2) := by decide +kernel
theorem dL_law_283 : decode cL_law 283 = .ok (.invokestatic 76, 3) := by decide +kernel
theorem dL_law_286 : decode cL_law 286 = .ok (.imul, 1) := by decide +kernel
theorem dL_law_287 : decode cL_law 287 = .ok (.iadd, 1) := by decide +kernel
theorem dL_law_288 : decode cL_law 288 = .ok (.iconst 1, 1) := by decide +kernel
theorem dL_law_289 : decode cL_law 289 = .ok (.iadd, 1) := by decide +kernel
theorem dL_law_290 : decode cL_law 290 = .ok (.iload 10, 2) := by decide +kernel
theorem dL_law_292 : decode cL_law 292 = .ok (.bipush 6, 2) := by decide +kernel
theorem dL_law_294 : decode cL_law 294 = .ok (.ishr, 1) := by decide +kernel
theorem dL_law_295 : decode cL_law 295 = .ok (.bipush 12, 2) := by decide +kernel
theorem dL_law_297 : decode cL_law 297 = .ok (.invokestatic 76, 3) := by decide +kernel
theorem dL_law_300 : decode cL_law 300 = .ok (.iadd, 1) := by decide +kernel
theorem dL_law_301 : decode cL_law 301 = .ok (.goto 8, 3) := by decide +kernel
theorem dL_law_304 : decode cL_law 304 = .ok (.ldc 146, 2) := by decide +kernel
theorem dL_law_306 : decode cL_law 306 = .ok (.iload 13, 2) := by decide +kernel
theorem dL_law_308 : decode cL_law 308 = .ok (.iadd, 1) := by decide +kernel
theorem dL_law_309 : decode cL_law 309 = .ok (.iastore, 1) := by decide +kernel
theorem dL_law_310 : decode cL_law 310 = .ok (.iload 9, 2) := by decide +kernel
theorem dL_law_312 : decode cL_law 312 = .ok (.bipush 10, 2) := by decide +kernel
theorem dL_law_314 : decode cL_law 314 = .ok (.ishr, 1) := by decide +kernel
theorem dL_law_315 : decode cL_law 315 = .ok (.bipush 7, 2) := by decide +kernel
theorem dL_law_317 : decode cL_law 317 = .ok (.invokestatic 76, 3) := by decide +kernel
theorem dL_law_320 : decode cL_law 320 = .ok (.istore 17, 2) := by decide +kernel
theorem dL_law_322 : decode cL_law 322 = .ok (.aload_n 2, 1) := by decide +kernel
theorem dL_law_323 : decode cL_law 323 = .ok (.iload 15, 2) := by decide +kernel
theorem dL_law_325 : decode cL_law 325 = .ok (.iconst 1, 1) := by decide +kernel
theorem dL_law_326 : decode cL_law 326 = .ok (.iadd, 1) := by decide +kernel
theorem dL_law_327 : decode cL_law 327 = .ok (.iload 17, 2) := by decide +kernel
theorem dL_law_329 : decode cL_law 329 = .ok (.ifCond .ne 19, 3) := by decide +kernel
theorem dL_law_332 : decode cL_law 332 = .ok (.ldc 147, 2) := by decide +kernel
theorem dL_law_334 : decode cL_law 334 = .ok (.iload 10, 2) := by decide +kernel
theorem dL_law_336 : decode cL_law 336 = .ok (.bipush 9, 2) := by decide +kernel
theorem dL_law_338 : decode cL_law 338 = .ok (.ishr, 1) := by decide +kernel
theorem dL_law_339 : decode cL_law 339 = .ok (.bipush 7, 2) := by decide +kernel
theorem dL_law_341 : decode cL_law 341 = .ok (.invokestatic 76, 3) := by decide +kernel
theorem dL_law_344 : decode cL_law 344 = .ok (.iadd, 1) := by decide +kernel
theorem dL_law_345 : decode cL_law 345 = .ok (.goto 56, 3) := by decide +kernel
theorem dL_law_348 : decode cL_law 348 = .ok (.iload 17, 2) := by decide +kernel
theorem dL_law_350 : decode cL_law 350 = .ok (.iconst 1, 1) := by decide +kernel
theorem dL_law_351 : decode cL_law 351 = .ok (.if_icmp .ne 8, 3) := by decide +kernel
theorem dL_law_354 : decode cL_law 354 = .ok (.ldc 148, 2) := by decide +kernel
theorem dL_law_356 : decode cL_law 356 = .ok (.goto 45, 3) := by decide +kernel
theorem dL_law_359 : decode cL_law 359 = .ok (.iload 17, 2) := by decide +kernel
theorem dL_law_361 : decode cL_law 361 = .ok (.iconst 2, 1) := by decide +kernel
theorem dL_law_362 : decode cL_law 362 = .ok (.if_icmp .ne 18, 3) := by decide +kernel
theorem dL_law_365 : decode cL_law 365 = .ok (.aload 5, 2) := by decide +kernel
theorem dL_law_367 : decode cL_law 367 = .ok (.iconst 0, 1) := by decide +kernel
theorem dL_law_368 : decode cL_law 368 = .ok (.iaload, 1) := by decide +kernel
theorem dL_law_369 : decode cL_law 369 = .ok (.ifCond .le 11, 3) := by decide +kernel
theorem dL_law_372 : decode cL_law 372 = .ok (.ldc 149, 2) := by decide +kernel
theorem dL_law_374 : decode cL_law 374 = .ok (.iload 13, 2) := by decide +kernel
theorem dL_law_376 : decode cL_law 376 = .ok (.iadd, 1) := by decide +kernel
theorem dL_law_377 : decode cL_law 377 = .ok (.goto 24, 3) := by decide +kernel
theorem dL_law_380 : decode cL_law 380 = .ok (.iload 17, 2) := by decide +kernel
theorem dL_law_382 : decode cL_law 382 = .ok (.iconst 3, 1) := by decide +kernel
theorem dL_law_383 : decode cL_law 383 = .ok (.if_icmp .ne 17, 3) := by decide +kernel
theorem dL_law_386 : decode cL_law 386 = .ok (.ldc 150, 2) := by decide +kernel
theorem dL_law_388 : decode cL_law 388 = .ok (.iload 10, 2) := by decide +kernel
theorem dL_law_390 : decode cL_law 390 = .ok (.bipush 9, 2) := by decide +kernel
theorem dL_law_392 : decode cL_law 392 = .ok (.ishr, 1) := by decide +kernel
theorem dL_law_393 : decode cL_law 393 = .ok (.invokestatic 143, 3) := by decide +kernel
theorem dL_law_396 : decode cL_law 396 = .ok (.iadd, 1) := by decide +kernel
theorem dL_law_397 : decode cL_law 397 = .ok (.goto 4, 3) := by decide +kernel
theorem dL_law_400 : decode cL_law 400 = .ok (.iconst 0, 1) := by decide +kernel
theorem dL_law_401 : decode cL_law 401 = .ok (.iastore, 1) := by decide +kernel
theorem dL_law_402 : decode cL_law 402 = .ok (.iload 9, 2) := by decide +kernel
theorem dL_law_404 : decode cL_law 404 = .ok (.bipush 13, 2) := by decide +kernel
theorem dL_law_406 : decode cL_law 406 = .ok (.ishr, 1) := by decide +kernel
theorem dL_law_407 : decode cL_law 407 = .ok (.iconst 2, 1) := by decide +kernel
theorem dL_law_408 : decode cL_law 408 = .ok (.invokestatic 76, 3) := by decide +kernel
theorem dL_law_411 : decode cL_law 411 = .ok (.ifCond .ne 16, 3) := by decide +kernel
theorem dL_law_414 : decode cL_law 414 = .ok (.aload_n 2, 1) := by decide +kernel
theorem dL_law_415 : decode cL_law 415 = .ok (.iload 15, 2) := by decide +kernel
theorem dL_law_417 : decode cL_law 417 = .ok (.iconst 1, 1) := by decide +kernel
theorem dL_law_418 : decode cL_law 418 = .ok (.iadd, 1) := by decide +kernel
theorem dL_law_419 : decode cL_law 419 = .ok (.aload_n 2, 1) := by decide +kernel
theorem dL_law_420 : decode cL_law 420 = .ok (.iload 15, 2) := by decide +kernel
theorem dL_law_422 : decode cL_law 422 = .ok (.iconst 1, 1) := by decide +kernel
theorem dL_law_423 : decode cL_law 423 = .ok (.iadd, 1) := by decide +kernel
theorem dL_law_424 : decode cL_law 424 = .ok (.iaload, 1) := by decide +kernel
theorem dL_law_425 : decode cL_law 425 = .ok (.ineg, 1) := by decide +kernel
theorem dL_law_426 : decode cL_law 426 = .ok (.iastore, 1) := by decide +kernel
theorem dL_law_427 : decode cL_law 427 = .ok (.aload_n 2, 1) := by decide +kernel
theorem dL_law_428 : decode cL_law 428 = .ok (.iload 15, 2) := by decide +kernel
theorem dL_law_430 : decode cL_law 430 = .ok (.iconst 2, 1) := by decide +kernel
theorem dL_law_431 : decode cL_law 431 = .ok (.iadd, 1) := by decide +kernel
theorem dL_law_432 : decode cL_law 432 = .ok (.iload 11, 2) := by decide +kernel
theorem dL_law_434 : decode cL_law 434 = .ok (.invokestatic 151, 3) := by decide +kernel
theorem dL_law_437 : decode cL_law 437 = .ok (.iastore, 1) := by decide +kernel
theorem dL_law_438 : decode cL_law 438 = .ok (.aload_n 2, 1) := by decide +kernel
theorem dL_law_439 : decode cL_law 439 = .ok (.iload 15, 2) := by decide +kernel
theorem dL_law_441 : decode cL_law 441 = .ok (.iconst 3, 1) := by decide +kernel
theorem dL_law_442 : decode cL_law 442 = .ok (.iadd, 1) := by decide +kernel
theorem dL_law_443 : decode cL_law 443 = .ok (.iload 9, 2) := by decide +kernel
theorem dL_law_445 : decode cL_law 445 = .ok (.bipush 14, 2) := by decide +kernel
theorem dL_law_447 : decode cL_law 447 = .ok (.ishr, 1) := by decide +kernel
theorem dL_law_448 : decode cL_law 448 = .ok (.iconst 2, 1) := by decide +kernel
theorem dL_law_449 : decode cL_law 449 = .ok (.invokestatic 76, 3) := by decide +kernel
theorem dL_law_452 : decode cL_law 452 = .ok (.ifCond .ne 7, 3) := by decide +kernel
theorem dL_law_455 : decode cL_law 455 = .ok (.iconst (-1), 1) := by decide +kernel
theorem dL_law_456 : decode cL_law 456 = .ok (.goto 11, 3) := by decide +kernel
theorem dL_law_459 : decode cL_law 459 = .ok (.iload 11, 2) := by decide +kernel
theorem dL_law_461 : decode cL_law 461 = .ok (.bipush 9, 2) := by decide +kernel
theorem dL_law_463 : decode cL_law 463 = .ok (.ishr, 1) := by decide +kernel
theorem dL_law_464 : decode cL_law 464 = .ok (.invokestatic 151, 3) := by decide +kernel
theorem dL_law_467 : decode cL_law 467 = .ok (.iastore, 1) := by decide +kernel
theorem dL_law_468 : decode cL_law 468 = .ok (.aload_n 2, 1) := by decide +kernel
theorem dL_law_469 : decode cL_law 469 = .ok (.iload 15, 2) := by decide +kernel
theorem dL_law_471 : decode cL_law 471 = .ok (.iconst 4, 1) := by decide +kernel
theorem dL_law_472 : decode cL_law 472 = .ok (.iadd, 1) := by decide +kernel
theorem dL_law_473 : decode cL_law 473 = .ok (.iload 9, 2) := by decide +kernel
theorem dL_law_475 : decode cL_law 475 = .ok (.bipush 15, 2) := by decide +kernel
theorem dL_law_477 : decode cL_law 477 = .ok (.ishr, 1) := by decide +kernel
theorem dL_law_478 : decode cL_law 478 = .ok (.iconst 2, 1) := by decide +kernel
theorem dL_law_479 : decode cL_law 479 = .ok (.invokestatic 76, 3) := by decide +kernel
theorem dL_law_482 : decode cL_law 482 = .ok (.ifCond .ne 7, 3) := by decide +kernel
theorem dL_law_485 : decode cL_law 485 = .ok (.iconst 0, 1) := by decide +kernel
theorem dL_law_486 : decode cL_law 486 = .ok (.goto 11, 3) := by decide +kernel
theorem dL_law_489 : decode cL_law 489 = .ok (.iload 10, 2) := by decide +kernel
theorem dL_law_491 : decode cL_law 491 = .ok (.bipush 12, 2) := by decide +kernel
theorem dL_law_493 : decode cL_law 493 = .ok (.ishr, 1) := by decide +kernel
theorem dL_law_494 : decode cL_law 494 = .ok (.invokestatic 151, 3) := by decide +kernel
theorem dL_law_497 : decode cL_law 497 = .ok (.iastore, 1) := by decide +kernel
theorem dL_law_498 : decode cL_law 498 = .ok (.aload_n 2, 1) := by decide +kernel
theorem dL_law_499 : decode cL_law 499 = .ok (.iload 15, 2) := by decide +kernel
theorem dL_law_501 : decode cL_law 501 = .ok (.iconst 5, 1) := by decide +kernel
theorem dL_law_502 : decode cL_law 502 = .ok (.iadd, 1) := by decide +kernel
theorem dL_law_503 : decode cL_law 503 = .ok (.iload 9, 2) := by decide +kernel
theorem dL_law_505 : decode cL_law 505 = .ok (.bipush 16, 2) := by decide +kernel
theorem dL_law_507 : decode cL_law 507 = .ok (.ishr, 1) := by decide +kernel
theorem dL_law_508 : decode cL_law 508 = .ok (.iconst 3, 1) := by decide +kernel
theorem dL_law_509 : decode cL_law 509 = .ok (.invokestatic 76, 3) := by decide +kernel
theorem dL_law_512 : decode cL_law 512 = .ok (.ifCond .ne 14, 3) := by decide +kernel
theorem dL_law_515 : decode cL_law 515 = .ok (.iload 10, 2) := by decide +kernel
theorem dL_law_517 : decode cL_law 517 = .ok (.bipush 17, 2) := by decide +kernel
theorem dL_law_519 : decode cL_law 519 = .ok (.ishr, 1) := by decide +kernel
theorem dL_law_520 : decode cL_law 520 = .ok (.invokestatic 151, 3) := by decide +kernel
theorem dL_law_523 : decode cL_law 523 = .ok (.goto 4, 3) := by decide +kernel
theorem dL_law_526 : decode cL_law 526 = .ok (.iconst 0, 1) := by decide +kernel
theorem dL_law_527 : decode cL_law 527 = .ok (.iastore, 1) := by decide +kernel
theorem dL_law_528 : decode cL_law 528 = .ok (.aload_n 2, 1) := by decide +kernel
theorem dL_law_529 : decode cL_law 529 = .ok (.iload 15, 2) := by decide +kernel
theorem dL_law_531 : decode cL_law 531 = .ok (.iconst 4, 1) := by decide +kernel
theorem dL_law_532 : decode cL_law 532 = .ok (.iadd, 1) := by decide +kernel
theorem dL_law_533 : decode cL_law 533 = .ok (.iaload, 1) := by decide +kernel
theorem dL_law_534 : decode cL_law 534 = .ok (.sipush 1000, 3) := by decide +kernel
theorem dL_law_537 : decode cL_law 537 = .ok (.idiv, 1) := by decide +kernel
theorem dL_law_538 : decode cL_law 538 = .ok (.iconst 1, 1) := by decide +kernel
theorem dL_law_539 : decode cL_law 539 = .ok (.if_icmp .ne 21, 3) := by decide +kernel
theorem dL_law_542 : decode cL_law 542 = .ok (.aload_n 2, 1) := by decide +kernel
theorem dL_law_543 : decode cL_law 543 = .ok (.iload 15, 2) := by decide +kernel
theorem dL_law_545 : decode cL_law 545 = .ok (.iconst 1, 1) := by decide +kernel
theorem dL_law_546 : decode cL_law 546 = .ok (.iadd, 1) := by decide +kernel
theorem dL_law_547 : decode cL_law 547 = .ok (.iaload, 1) := by decide +kernel
theorem dL_law_548 : decode cL_law 548 = .ok (.ifCond .ne 12, 3) := by decide +kernel
theorem dL_law_551 : decode cL_law 551 = .ok (.aload_n 2, 1) := by decide +kernel
theorem dL_law_552 : decode cL_law 552 = .ok (.iload 15, 2) := by decide +kernel
theorem dL_law_554 : decode cL_law 554 = .ok (.iconst 4, 1) := by decide +kernel
theorem dL_law_555 : decode cL_law 555 = .ok (.iadd, 1) := by decide +kernel
theorem dL_law_556 : decode cL_law 556 = .ok (.sipush 4003, 3) := by decide +kernel
theorem dL_law_559 : decode cL_law 559 = .ok (.iastore, 1) := by decide +kernel
theorem dL_law_560 : decode cL_law 560 = .ok (.aload_n 2, 1) := by decide +kernel
theorem dL_law_561 : decode cL_law 561 = .ok (.iload 15, 2) := by decide +kernel
theorem dL_law_563 : decode cL_law 563 = .ok (.iconst 5, 1) := by decide +kernel
theorem dL_law_564 : decode cL_law 564 = .ok (.iadd, 1) := by decide +kernel
theorem dL_law_565 : decode cL_law 565 = .ok (.iaload, 1) := by decide +kernel
theorem dL_law_566 : decode cL_law 566 = .ok (.sipush 1000, 3) := by decide +kernel
theorem dL_law_569 : decode cL_law 569 = .ok (.idiv, 1) := by decide +kernel
theorem dL_law_570 : decode cL_law 570 = .ok (.iconst 1, 1) := by decide +kernel
theorem dL_law_571 : decode cL_law 571 = .ok (.if_icmp .ne 12, 3) := by decide +kernel
theorem dL_law_574 : decode cL_law 574 = .ok (.aload_n 2, 1) := by decide +kernel
theorem dL_law_575 : decode cL_law 575 = .ok (.iload 15, 2) := by decide +kernel
theorem dL_law_577 : decode cL_law 577 = .ok (.iconst 5, 1) := by decide +kernel
theorem dL_law_578 : decode cL_law 578 = .ok (.iadd, 1) := by decide +kernel
theorem dL_law_579 : decode cL_law 579 = .ok (.sipush 6000, 3) := by decide +kernel
theorem dL_law_582 : decode cL_law 582 = .ok (.iastore, 1) := by decide +kernel
theorem dL_law_583 : decode cL_law 583 = .ok (.aload_n 1, 1) := by decide +kernel
theorem dL_law_584 : decode cL_law 584 = .ok (.aload_n 2, 1) := by decide +kernel
theorem dL_law_585 : decode cL_law 585 = .ok (.aload 5, 2) := by decide +kernel
theorem dL_law_587 : decode cL_law 587 = .ok (.iconst 0, 1) := by decide +kernel
theorem dL_law_588 : decode cL_law 588 = .ok (.iaload, 1) := by decide +kernel
theorem dL_law_589 : decode cL_law 589 = .ok (.invokestatic 154, 3) := by decide +kernel
theorem dL_law_592 : decode cL_law 592 = .ok (.aload_n 3, 1) := by decide +kernel
theorem dL_law_593 : decode cL_law 593 = .ok (.aload 5, 2) := by decide +kernel
theorem dL_law_595 : decode cL_law 595 = .ok (.iconst 0, 1) := by decide +kernel
theorem dL_law_596 : decode cL_law 596 = .ok (.iaload, 1) := by decide +kernel
theorem dL_law_597 : decode cL_law 597 = .ok (.iconst 2, 1) := by decide +kernel
theorem dL_law_598 : decode cL_law 598 = .ok (.iload 9, 2) := by decide +kernel
theorem dL_law_600 : decode cL_law 600 = .ok (.bipush 18, 2) := by decide +kernel
theorem dL_law_602 : decode cL_law 602 = .ok (.ishr, 1) := by decide +kernel
theorem dL_law_603 : decode cL_law 603 = .ok (.bipush 10, 2) := by decide +kernel
theorem dL_law_605 : decode cL_law 605 = .ok (.invokestatic 76, 3) := by decide +kernel
theorem dL_law_608 : decode cL_law 608 = .ok (.imul, 1) := by decide +kernel
theorem dL_law_609 : decode cL_law 609 = .ok (.iload 9, 2) := by decide +kernel
theorem dL_law_611 : decode cL_law 611 = .ok (.bipush 22, 2) := by decide +kernel
theorem dL_law_613 : decode cL_law 613 = .ok (.ishr, 1) := by decide +kernel
theorem dL_law_614 : decode cL_law 614 = .ok (.iconst 2, 1) := by decide +kernel
theorem dL_law_615 : decode cL_law 615 = .ok (.invokestatic 76, 3) := by decide +kernel
theorem dL_law_618 : decode cL_law 618 = .ok (.iadd, 1) := by decide +kernel
theorem dL_law_619 : decode cL_law 619 = .ok (.iastore, 1) := by decide +kernel
theorem dL_law_620 : decode cL_law 620 = .ok (.aload 5, 2) := by decide +kernel
theorem dL_law_622 : decode cL_law 622 = .ok (.iconst 0, 1) := by decide +kernel
theorem dL_law_623 : decode cL_law 623 = .ok (.dup2, 1) := by decide +kernel
theorem dL_law_624 : decode cL_law 624 = .ok (.iaload, 1) := by decide +kernel
theorem dL_law_625 : decode cL_law 625 = .ok (.iconst 1, 1) := by decide +kernel
theorem dL_law_626 : decode cL_law 626 = .ok (.iadd, 1) := by decide +kernel
theorem dL_law_627 : decode cL_law 627 = .ok (.iastore, 1) := by decide +kernel
theorem dL_law_628 : decode cL_law 628 = .ok (.aload_n 1, 1) := by decide +kernel
theorem dL_law_629 : decode cL_law 629 = .ok (.invokevirtual 158, 3) := by decide +kernel
theorem dL_law_632 : decode cL_law 632 = .ok (.iconst (-1), 1) := by decide +kernel
theorem dL_law_633 : decode cL_law 633 = .ok (.if_icmp .ne 52, 3) := by decide +kernel
theorem dL_law_636 : decode cL_law 636 = .ok (.aload_n 1, 1) := by decide +kernel
theorem dL_law_637 : decode cL_law 637 = .ok (.aload_n 3, 1) := by decide +kernel
theorem dL_law_638 : decode cL_law 638 = .ok (.aload 5, 2) := by decide +kernel
theorem dL_law_640 : decode cL_law 640 = .ok (.iconst 0, 1) := by decide +kernel
theorem dL_law_641 : decode cL_law 641 = .ok (.iaload, 1) := by decide +kernel
theorem dL_law_642 : decode cL_law 642 = .ok (.iconst 1, 1) := by decide +kernel
theorem dL_law_643 : decode cL_law 643 = .ok (.isub, 1) := by decide +kernel
theorem dL_law_644 : decode cL_law 644 = .ok (.iaload, 1) := by decide +kernel
theorem dL_law_645 : decode cL_law 645 = .ok (.iconst 2, 1) := by decide +kernel
theorem dL_law_646 : decode cL_law 646 = .ok (.idiv, 1) := by decide +kernel
theorem dL_law_647 : decode cL_law 647 = .ok (.aload_n 3, 1) := by decide +kernel
theorem dL_law_648 : decode cL_law 648 = .ok (.aload 5, 2) := by decide +kernel
theorem dL_law_650 : decode cL_law 650 = .ok (.iconst 0, 1) := by decide +kernel
theorem dL_law_651 : decode cL_law 651 = .ok (.iaload, 1) := by decide +kernel
theorem dL_law_652 : decode cL_law 652 = .ok (.iconst 1, 1) := by decide +kernel
theorem dL_law_653 : decode cL_law 653 = .ok (.isub, 1) := by decide +kernel
theorem dL_law_654 : decode cL_law 654 = .ok (.iaload, 1) := by decide +kernel
theorem dL_law_655 : decode cL_law 655 = .ok (.iconst 2, 1) := by decide +kernel
theorem dL_law_656 : decode cL_law 656 = .ok (.irem, 1) := by decide +kernel
theorem dL_law_657 : decode cL_law 657 = .ok (.iconst 1, 1) := by decide +kernel
theorem dL_law_658 : decode cL_law 658 = .ok (.if_icmp .ne 7, 3) := by decide +kernel
theorem dL_law_661 : decode cL_law 661 = .ok (.iconst 1, 1) := by decide +kernel
theorem dL_law_662 : decode cL_law 662 = .ok (.goto 4, 3) := by decide +kernel
theorem dL_law_665 : decode cL_law 665 = .ok (.iconst 0, 1) := by decide +kernel
theorem dL_law_666 : decode cL_law 666 = .ok (.invokevirtual 89, 3) := by decide +kernel
theorem dL_law_669 : decode cL_law 669 = .ok (.aload 5, 2) := by decide +kernel
theorem dL_law_671 : decode cL_law 671 = .ok (.iconst 0, 1) := by decide +kernel
theorem dL_law_672 : decode cL_law 672 = .ok (.iaload, 1) := by decide +kernel
theorem dL_law_673 : decode cL_law 673 = .ok (.iconst 1, 1) := by decide +kernel
theorem dL_law_674 : decode cL_law 674 = .ok (.isub, 1) := by decide +kernel
theorem dL_law_675 : decode cL_law 675 = .ok (.if_icmp .ne 10, 3) := by decide +kernel
theorem dL_law_678 : decode cL_law 678 = .ok (.aload_n 1, 1) := by decide +kernel
theorem dL_law_679 : decode cL_law 679 = .ok (.invokevirtual 162, 3) := by decide +kernel
theorem dL_law_682 : decode cL_law 682 = .ok (.ifCond .eq 5, 3) := by decide +kernel
theorem dL_law_685 : decode cL_law 685 = .ok (.iconst 0, 1) := by decide +kernel
theorem dL_law_686 : decode cL_law 686 = .ok (.ireturn, 1) := by decide +kernel
theorem dL_law_687 : decode cL_law 687 = .ok (.goto 1248, 3) := by decide +kernel
theorem dL_law_690 : decode cL_law 690 = .ok (.iload 12, 2) := by decide +kernel
theorem dL_law_692 : decode cL_law 692 = .ok (.iconst 5, 1) := by decide +kernel
theorem dL_law_693 : decode cL_law 693 = .ok (.if_icmp .ne 59, 3) := by decide +kernel
theorem dL_law_696 : decode cL_law 696 = .ok (.aload_n 3, 1) := by decide +kernel
theorem dL_law_697 : decode cL_law 697 = .ok (.iload 13, 2) := by decide +kernel
theorem dL_law_699 : decode cL_law 699 = .ok (.iaload, 1) := by decide +kernel
theorem dL_law_700 : decode cL_law 700 = .ok (.iconst 2, 1) := by decide +kernel
theorem dL_law_701 : decode cL_law 701 = .ok (.idiv, 1) := by decide +kernel
theorem dL_law_702 : decode cL_law 702 = .ok (.istore 15, 2) := by decide +kernel
theorem dL_law_704 : decode cL_law 704 = .ok (.aload_n 3, 1) := by decide +kernel
theorem dL_law_705 : decode cL_law 705 = .ok (.iload 13, 2) := by decide +kernel
theorem dL_law_707 : decode cL_law 707 = .ok (.iload 10, 2) := by decide +kernel
theorem dL_law_709 : decode cL_law 709 = .ok (.bipush 20, 2) := by decide +kernel
theorem dL_law_711 : decode cL_law 711 = .ok (.invokestatic 76, 3) := by decide +kernel
theorem dL_law_714 : decode cL_law 714 = .ok (.iastore, 1) := by decide +kernel
theorem dL_law_715 : decode cL_law 715 = .ok (.aload_n 1, 1) := by decide +kernel
theorem dL_law_716 : decode cL_law 716 = .ok (.iload 13, 2) := by decide +kernel
theorem dL_law_718 : decode cL_law 718 = .ok (.aload_n 3, 1) := by decide +kernel
theorem dL_law_719 : decode cL_law 719 = .ok (.iload 13, 2) := by decide +kernel
theorem dL_law_721 : decode cL_law 721 = .ok (.iaload, 1) := by decide +kernel
theorem dL_law_722 : decode cL_law 722 = .ok (.iconst 2, 1) := by decide +kernel
theorem dL_law_723 : decode cL_law 723 = .ok (.idiv, 1) := by decide +kernel
theorem dL_law_724 : decode cL_law 724 = .ok (.aload_n 3, 1) := by decide +kernel
theorem dL_law_725 : decode cL_law 725 = .ok (.iload 13, 2) := by decide +kernel
theorem dL_law_727 : decode cL_law 727 = .ok (.iaload, 1) := by decide +kernel
theorem dL_law_728 : decode cL_law 728 = .ok (.iconst 2, 1) := by decide +kernel
theorem dL_law_729 : decode cL_law 729 = .ok (.irem, 1) := by decide +kernel
theorem dL_law_730 : decode cL_law 730 = .ok (.iconst 1, 1) := by decide +kernel
theorem dL_law_731 : decode cL_law 731 = .ok (.if_icmp .ne 7, 3) := by decide +kernel
theorem dL_law_734 : decode cL_law 734 = .ok (.iconst 1, 1) := by decide +kernel
theorem dL_law_735 : decode cL_law 735 = .ok (.goto 4, 3) := by decide +kernel
theorem dL_law_738 : decode cL_law 738 = .ok (.iconst 0, 1) := by decide +kernel
theorem dL_law_739 : decode cL_law 739 = .ok (.invokevirtual 165, 3) := by decide +kernel
theorem dL_law_742 : decode cL_law 742 = .ok (.iload 15, 2) := by decide +kernel
theorem dL_law_744 : decode cL_law 744 = .ok (.if_icmp .eq 5, 3) := by decide +kernel
theorem dL_law_747 : decode cL_law 747 = .ok (.iconst 0, 1) := by decide +kernel
theorem dL_law_748 : decode cL_law 748 = .ok (.ireturn, 1) := by decide +kernel
theorem dL_law_749 : decode cL_law 749 = .ok (.goto 1186, 3) := by decide +kernel
theorem dL_law_752 : decode cL_law 752 = .ok (.iload 12, 2) := by decide +kernel
theorem dL_law_754 : decode cL_law 754 = .ok (.bipush 8, 2) := by decide +kernel
theorem dL_law_756 : decode cL_law 756 = .ok (.if_icmp .ge 228, 3) := by decide +kernel
theorem dL_law_759 : decode cL_law 759 = .ok (.iload 10, 2) := by decide +kernel
theorem dL_law_761 : decode cL_law 761 = .ok (.bipush 8, 2) := by decide +kernel
theorem dL_law_763 : decode cL_law 763 = .ok (.invokestatic 76, 3) := by decide +kernel
theorem dL_law_766 : decode cL_law 766 = .ok (.ifCond .ne 8, 3) := by decide +kernel
theorem dL_law_769 : decode cL_law 769 = .ok (.bipush 99, 2) := by decide +kernel
theorem dL_law_771 : decode cL_law 771 = .ok (.goto 15, 3) := by decide +kernel
theorem dL_law_774 : decode cL_law 774 = .ok (.iload 10, 2) := by decide +kernel
theorem dL_law_776 : decode cL_law 776 = .ok (.iconst 3, 1) := by decide +kernel
theorem dL_law_777 : decode cL_law 777 = .ok (.ishr, 1) := by decide +kernel
theorem dL_law_778 : decode cL_law 778 = .ok (.bipush 61, 2) := by decide +kernel
theorem dL_law_780 : decode cL_law 780 = .ok (.invokestatic 76, 3) := by decide +kernel
theorem dL_law_783 : decode cL_law 783 = .ok (.bipush 30, 2) := by decide +kernel
theorem dL_law_785 : decode cL_law 785 = .ok (.isub, 1) := by decide +kernel
theorem dL_law_786 : decode cL_law 786 = .ok (.istore 15, 2) := by decide +kernel
theorem dL_law_788 : decode cL_law 788 = .ok (.iload 9, 2) := by decide +kernel
theorem dL_law_790 : decode cL_law 790 = .ok (.bipush 9, 2) := by decide +kernel
theorem dL_law_792 : decode cL_law 792 = .ok (.ishr, 1) := by decide +kernel
theorem dL_law_793 : decode cL_law 793 = .ok (.iconst 2, 1) := by decide +kernel
theorem dL_law_794 : decode cL_law 794 = .ok (.invokestatic 76, 3) := by decide +kernel
theorem dL_law_797 : decode cL_law 797 = .ok (.ifCond .ne 8, 3) := by decide +kernel
theorem dL_law_800 : decode cL_law 800 = .ok (.bipush 40, 2) := by decide +kernel
theorem dL_law_802 : decode cL_law 802 = .ok (.goto 5, 3) := by decide +kernel
theorem dL_law_805 : decode cL_law 805 = .ok (.iload 14, 2) := by decide +kernel
theorem dL_law_807 : decode cL_law 807 = .ok (.istore 16, 2) := by decide +kernel
theorem dL_law_809 : decode cL_law 809 = .ok (.iconst 0, 1) := by decide +kernel
theorem dL_law_810 : decode cL_law 810 = .ok (.istore 17, 2) := by decide +kernel
theorem dL_law_812 : decode cL_law 812 = .ok (.iconst 0, 1) := by decide +kernel
theorem dL_law_813 : decode cL_law 813 = .ok (.istore 18, 2) := by decide +kernel
theorem dL_law_815 : decode cL_law 815 = .ok (.iload 18, 2) := by decide +kernel
theorem dL_law_817 : decode cL_law 817 = .ok (.aload 5, 2) := by decide +kernel
theorem dL_law_819 : decode cL_law 819 = .ok (.iconst 1, 1) := by decide +kernel
theorem dL_law_820 : decode cL_law 820 = .ok (.iaload, 1) := by decide +kernel
theorem dL_law_821 : decode cL_law 821 = .ok (.if_icmp .ge 58, 3) := by decide +kernel
theorem dL_law_824 : decode cL_law 824 = .ok (.aload 4, 2) := by decide +kernel
theorem dL_law_826 : decode cL_law 826 = .ok (.iconst 3, 1) := by decide +kernel
theorem dL_law_827 : decode cL_law 827 = .ok (.iload 18, 2) := by decide +kernel
theorem dL_law_829 : decode cL_law 829 = .ok (.imul, 1) := by decide +kernel
theorem dL_law_830 : decode cL_law 830 = .ok (.iaload, 1) := by decide +kernel
theorem dL_law_831 : decode cL_law 831 = .ok (.iload 13, 2) := by decide +kernel
theorem dL_law_833 : decode cL_law 833 = .ok (.if_icmp .ne 40, 3) := by decide +kernel
theorem dL_law_836 : decode cL_law 836 = .ok (.aload 4, 2) := by decide +kernel
theorem dL_law_838 : decode cL_law 838 = .ok (.iconst 3, 1) := by decide +kernel
theorem dL_law_839 : decode cL_law 839 = .ok (.iload 18, 2) := by decide +kernel
theorem dL_law_841 : decode cL_law 841 = .ok (.imul, 1) := by decide +kernel
theorem dL_law_842 : decode cL_law 842 = .ok (.iconst 1, 1) := by decide +kernel
theorem dL_law_843 : decode cL_law 843 = .ok (.iadd, 1) := by decide +kernel
theorem dL_law_844 : decode cL_law 844 = .ok (.iaload, 1) := by decide +kernel
theorem dL_law_845 : decode cL_law 845 = .ok (.iload 16, 2) := by decide +kernel
theorem dL_law_847 : decode cL_law 847 = .ok (.isub, 1) := by decide +kernel
theorem dL_law_848 : decode cL_law 848 = .ok (.bipush 10, 2) := by decide +kernel
theorem dL_law_850 : decode cL_law 850 = .ok (.if_icmp .ge 23, 3) := by decide +kernel
theorem dL_law_853 : decode cL_law 853 = .ok (.iload 16, 2) := by decide +kernel
theorem dL_law_855 : decode cL_law 855 = .ok (.aload 4, 2) := by decide +kernel
theorem dL_law_857 : decode cL_law 857 = .ok (.iconst 3, 1) := by decide +kernel
theorem dL_law_858 : decode cL_law 858 = .ok (.iload 18, 2) := by decide +kernel
theorem dL_law_860 : decode cL_law 860 = .ok (.imul, 1) := by decide +kernel
theorem dL_law_861 : decode cL_law 861 = .ok (.iconst 1, 1) := by decide +kernel
theorem dL_law_862 : decode cL_law 862 = .ok (.iadd, 1) := by decide +kernel
theorem dL_law_863 : decode cL_law 863 = .ok (.iaload, 1) := by decide +kernel
theorem dL_law_864 : decode cL_law 864 = .ok (.isub, 1) := by decide +kernel
theorem dL_law_865 : decode cL_law 865 = .ok (.bipush 10, 2) := by decide +kernel
theorem dL_law_867 : decode cL_law 867 = .ok (.if_icmp .ge 6, 3) := by decide +kernel
theorem dL_law_870 : decode cL_law 870 = .ok (.iconst 3, 1) := by decide +kernel
theorem dL_law_871 : decode cL_law 871 = .ok (.istore 17, 2) := by decide +kernel
theorem dL_law_873 : decode cL_law 873 = .ok (.iinc 18 1, 3) := by decide +kernel
theorem dL_law_876 : decode cL_law 876 = .ok (.goto (-61), 3) := by decide +kernel
theorem dL_law_879 : decode cL_law 879 = .ok (.iload 17, 2) := by decide +kernel
theorem dL_law_881 : decode cL_law 881 = .ok (.ifCond .le 20, 3) := by decide +kernel
theorem dL_law_884 : decode cL_law 884 = .ok (.aload_n 1, 1) := by decide +kernel
theorem dL_law_885 : decode cL_law 885 = .ok (.iconst 0, 1) := by decide +kernel
theorem dL_law_886 : decode cL_law 886 = .ok (.iload 13, 2) := by decide +kernel
theorem dL_law_888 : decode cL_law 888 = .ok (.iload 16, 2) := by decide +kernel
theorem dL_law_890 : decode cL_law 890 = .ok (.iload 15, 2) := by decide +kernel
theorem dL_law_892 : decode cL_law 892 = .ok (.invokestatic 169, 3) := by decide +kernel
theorem dL_law_895 : decode cL_law 895 = .ok (.iconst 3, 1) := by decide +kernel
theorem dL_law_896 : decode cL_law 896 = .ok (.if_icmp .eq 1058, 3) := by decide +kernel
theorem dL_law_899 : decode cL_law 899 = .ok (.iconst 0, 1) := by decide +kernel
theorem dL_law_900 : decode cL_law 900 = .ok (.ireturn, 1) := by decide +kernel
theorem dL_law_901 : decode cL_law 901 = .ok (.aload 5, 2) := by decide +kernel
theorem dL_law_903 : decode cL_law 903 = .ok (.iconst 1, 1) := by decide +kernel
theorem dL_law_904 : decode cL_law 904 = .ok (.iaload, 1) := by decide +kernel
theorem dL_law_905 : decode cL_law 905 = .ok (.bipush 10, 2) := by decide +kernel
theorem dL_law_907 : decode cL_law 907 = .ok (.if_icmp .ne 6, 3) := by decide +kernel
theorem dL_law_910 : decode cL_law 910 = .ok (.goto 1044, 3) := by decide +kernel
theorem dL_law_913 : decode cL_law 913 = .ok (.aload 4, 2) := by decide +kernel
theorem dL_law_915 : decode cL_law 915 = .ok (.iconst 3, 1) := by decide +kernel
theorem dL_law_916 : decode cL_law 916 = .ok (.aload 5, 2) := by decide +kernel
theorem dL_law_918 : decode cL_law 918 = .ok (.iconst 1, 1) := by decide +kernel
theorem dL_law_919 : decode cL_law 919 = .ok (.iaload, 1) := by decide +kernel
theorem dL_law_920 : decode cL_law 920 = .ok (.imul, 1) := by decide +kernel
theorem dL_law_921 : decode cL_law 921 = .ok (.iload 13, 2) := by decide +kernel
theorem dL_law_923 : decode cL_law 923 = .ok (.iastore, 1) := by decide +kernel
theorem dL_law_924 : decode cL_law 924 = .ok (.aload 4, 2) := by decide +kernel
theorem dL_law_926 : decode cL_law 926 = .ok (.iconst 3, 1) := by decide +kernel
theorem dL_law_927 : decode cL_law 927 = .ok (.aload 5, 2) := by decide +kernel
theorem dL_law_929 : decode cL_law 929 = .ok (.iconst 1, 1) := by decide +kernel
theorem dL_law_930 : decode cL_law 930 = .ok (.iaload, 1) := by decide +kernel
theorem dL_law_931 : decode cL_law 931 = .ok (.imul, 1) := by decide +kernel
theorem dL_law_932 : decode cL_law 932 = .ok (.iconst 1, 1) := by decide +kernel
theorem dL_law_933 : decode cL_law 933 = .ok (.iadd, 1) := by decide +kernel
theorem dL_law_934 : decode cL_law 934 = .ok (.iload 16, 2) := by decide +kernel
theorem dL_law_936 : decode cL_law 936 = .ok (.iastore, 1) := by decide +kernel
theorem dL_law_937 : decode cL_law 937 = .ok (.aload 4, 2) := by decide +kernel
theorem dL_law_939 : decode cL_law 939 = .ok (.iconst 3, 1) := by decide +kernel
theorem dL_law_940 : decode cL_law 940 = .ok (.aload 5, 2) := by decide +kernel
theorem dL_law_942 : decode cL_law 942 = .ok (.iconst 1, 1) := by decide +kernel
theorem dL_law_943 : decode cL_law 943 = .ok (.iaload, 1) := by decide +kernel
theorem dL_law_944 : decode cL_law 944 = .ok (.imul, 1) := by decide +kernel
theorem dL_law_945 : decode cL_law 945 = .ok (.iconst 2, 1) := by decide +kernel
theorem dL_law_946 : decode cL_law 946 = .ok (.iadd, 1) := by decide +kernel
theorem dL_law_947 : decode cL_law 947 = .ok (.iload 15, 2) := by decide +kernel
theorem dL_law_949 : decode cL_law 949 = .ok (.iastore, 1) := by decide +kernel
theorem dL_law_950 : decode cL_law 950 = .ok (.aload 5, 2) := by decide +kernel
theorem dL_law_952 : decode cL_law 952 = .ok (.iconst 1, 1) := by decide +kernel
theorem dL_law_953 : decode cL_law 953 = .ok (.dup2, 1) := by decide +kernel
theorem dL_law_954 : decode cL_law 954 = .ok (.iaload, 1) := by decide +kernel
theorem dL_law_955 : decode cL_law 955 = .ok (.iconst 1, 1) := by decide +kernel
theorem dL_law_956 : decode cL_law 956 = .ok (.iadd, 1) := by decide +kernel
theorem dL_law_957 : decode cL_law 957 = .ok (.iastore, 1) := by decide +kernel
theorem dL_law_958 : decode cL_law 958 = .ok (.aload_n 1, 1) := by decide +kernel
theorem dL_law_959 : decode cL_law 959 = .ok (.iload 13, 2) := by decide +kernel
theorem dL_law_961 : decode cL_law 961 = .ok (.iload 16, 2) := by decide +kernel
theorem dL_law_963 : decode cL_law 963 = .ok (.iload 15, 2) := by decide +kernel
theorem dL_law_965 : decode cL_law 965 = .ok (.invokevirtual 79, 3) := by decide +kernel
theorem dL_law_968 : decode cL_law 968 = .ok (.aload 5, 2) := by decide +kernel
theorem dL_law_970 : decode cL_law 970 = .ok (.iconst 1, 1) := by decide +kernel
theorem dL_law_971 : decode cL_law 971 = .ok (.iaload, 1) := by decide +kernel
theorem dL_law_972 : decode cL_law 972 = .ok (.if_icmp .eq 5, 3) := by decide +kernel
theorem dL_law_975 : decode cL_law 975 = .ok (.iconst 0, 1) := by decide +kernel
theorem dL_law_976 : decode cL_law 976 = .ok (.ireturn, 1) := by decide +kernel
theorem dL_law_977 : decode cL_law 977 = .ok (.iload 16, 2) := by decide +kernel
theorem dL_law_979 : decode cL_law 979 = .ok (.istore 14, 2) := by decide +kernel
theorem dL_law_981 : decode cL_law 981 = .ok (.goto 954, 3) := by decide +kernel
theorem dL_law_984 : decode cL_law 984 = .ok (.iload 12, 2) := by decide +kernel
theorem dL_law_986 : decode cL_law 986 = .ok (.bipush 8, 2) := by decide +kernel
theorem dL_law_988 : decode cL_law 988 = .ok (.if_icmp .ne 123, 3) := by decide +kernel
theorem dL_law_991 : decode cL_law 991 = .ok (.aload 5, 2) := by decide +kernel
theorem dL_law_993 : decode cL_law 993 = .ok (.iconst 1, 1) := by decide +kernel
theorem dL_law_994 : decode cL_law 994 = .ok (.iaload, 1) := by decide +kernel
theorem dL_law_995 : decode cL_law 995 = .ok (.ifCond .ne 19, 3) := by decide +kernel
theorem dL_law_998 : decode cL_law 998 = .ok (.aload_n 1, 1) := by decide +kernel
theorem dL_law_999 : decode cL_law 999 = .ok (.iconst 1, 1) := by decide +kernel
theorem dL_law_1000 : decode cL_law 1000 = .ok (.iload 13, 2) := by decide +kernel
theorem dL_law_1002 : decode cL_law 1002 = .ok (.iload 14, 2) := by decide +kernel
theorem dL_law_1004 : decode cL_law 1004 = .ok (.iconst 0, 1) := by decide +kernel
theorem dL_law_1005 : decode cL_law 1005 = .ok (.invokestatic 169, 3) := by decide +kernel
theorem dL_law_1008 : decode cL_law 1008 = .ok (.iconst 3, 1) := by decide +kernel
theorem dL_law_1009 : decode cL_law 1009 = .ok (.if_icmp .eq 945, 3) := by decide +kernel
theorem dL_law_1012 : decode cL_law 1012 = .ok (.iconst 0, 1) := by decide +kernel
theorem dL_law_1013 : decode cL_law 1013 = .ok (.ireturn, 1) := by decide +kernel
theorem dL_law_1014 : decode cL_law 1014 = .ok (.iload 10, 2) := by decide +kernel
theorem dL_law_1016 : decode cL_law 1016 = .ok (.aload 5, 2) := by decide +kernel
theorem dL_law_1018 : decode cL_law 1018 = .ok (.iconst 1, 1) := by decide +kernel
theorem dL_law_1019 : decode cL_law 1019 = .ok (.iaload, 1) := by decide +kernel
theorem dL_law_1020 : decode cL_law 1020 = .ok (.invokestatic 76, 3) := by decide +kernel
theorem dL_law_1023 : decode cL_law 1023 = .ok (.istore 15, 2) := by decide +kernel
theorem dL_law_1025 : decode cL_law 1025 = .ok (.aload 4, 2) := by decide +kernel
theorem dL_law_1027 : decode cL_law 1027 = .ok (.iconst 3, 1) := by decide +kernel
theorem dL_law_1028 : decode cL_law 1028 = .ok (.iload 15, 2) := by decide +kernel
theorem dL_law_1030 : decode cL_law 1030 = .ok (.imul, 1) := by decide +kernel
theorem dL_law_1031 : decode cL_law 1031 = .ok (.iconst 2, 1) := by decide +kernel
theorem dL_law_1032 : decode cL_law 1032 = .ok (.iadd, 1) := by decide +kernel
theorem dL_law_1033 : decode cL_law 1033 = .ok (.iaload, 1) := by decide +kernel
theorem dL_law_1034 : decode cL_law 1034 = .ok (.istore 16, 2) := by decide +kernel
theorem dL_law_1036 : decode cL_law 1036 = .ok (.aload_n 1, 1) := by decide +kernel
theorem dL_law_1037 : decode cL_law 1037 = .ok (.aload 4, 2) := by decide +kernel
theorem dL_law_1039 : decode cL_law 1039 = .ok (.iconst 3, 1) := by decide +kernel
theorem dL_law_1040 : decode cL_law 1040 = .ok (.iload 15, 2) := by decide +kernel
theorem dL_law_1042 : decode cL_law 1042 = .ok (.imul, 1) := by decide +kernel
theorem dL_law_1043 : decode cL_law 1043 = .ok (.iaload, 1) := by decide +kernel
theorem dL_law_1044 : decode cL_law 1044 = .ok (.aload 4, 2) := by decide +kernel
theorem dL_law_1046 : decode cL_law 1046 = .ok (.iconst 3, 1) := by decide +kernel
theorem dL_law_1047 : decode cL_law 1047 = .ok (.iload 15, 2) := by decide +kernel
theorem dL_law_1049 : decode cL_law 1049 = .ok (.imul, 1) := by decide +kernel
theorem dL_law_1050 : decode cL_law 1050 = .ok (.iconst 1, 1) := by decide +kernel
theorem dL_law_1051 : decode cL_law 1051 = .ok (.iadd, 1) := by decide +kernel
theorem dL_law_1052 : decode cL_law 1052 = .ok (.iaload, 1) := by decide +kernel
theorem dL_law_1053 : decode cL_law 1053 = .ok (.invokevirtual 83, 3) := by decide +kernel
theorem dL_law_1056 : decode cL_law 1056 = .ok (.iload 16, 2) := by decide +kernel
theorem dL_law_1058 : decode cL_law 1058 = .ok (.if_icmp .eq 5, 3) := by decide +kernel
theorem dL_law_1061 : decode cL_law 1061 = .ok (.iconst 0, 1) := by decide +kernel
theorem dL_law_1062 : decode cL_law 1062 = .ok (.ireturn, 1) := by decide +kernel
theorem dL_law_1063 : decode cL_law 1063 = .ok (.aload 5, 2) := by decide +kernel
theorem dL_law_1065 : decode cL_law 1065 = .ok (.iconst 1, 1) := by decide +kernel
theorem dL_law_1066 : decode cL_law 1066 = .ok (.dup2, 1) := by decide +kernel
theorem dL_law_1067 : decode cL_law 1067 = .ok (.iaload, 1) := by decide +kernel
theorem dL_law_1068 : decode cL_law 1068 = .ok (.iconst 1, 1) := by decide +kernel
theorem dL_law_1069 : decode cL_law 1069 = .ok (.isub, 1) := by decide +kernel
theorem dL_law_1070 : decode cL_law 1070 = .ok (.iastore, 1) := by decide +kernel
theorem dL_law_1071 : decode cL_law 1071 = .ok (.iconst 0, 1) := by decide +kernel
theorem dL_law_1072 : decode cL_law 1072 = .ok (.istore 17, 2) := by decide +kernel
theorem dL_law_1074 : decode cL_law 1074 = .ok (.iload 17, 2) := by decide +kernel
theorem dL_law_1076 : decode cL_law 1076 = .ok (.iconst 3, 1) := by decide +kernel
theorem dL_law_1077 : decode cL_law 1077 = .ok (.if_icmp .ge 31, 3) := by decide +kernel
theorem dL_law_1080 : decode cL_law 1080 = .ok (.aload 4, 2) := by decide +kernel
theorem dL_law_1082 : decode cL_law 1082 = .ok (.iconst 3, 1) := by decide +kernel
theorem dL_law_1083 : decode cL_law 1083 = .ok (.iload 15, 2) := by decide +kernel
theorem dL_law_1085 : decode cL_law 1085 = .ok (.imul, 1) := by decide +kernel
theorem dL_law_1086 : decode cL_law 1086 = .ok (.iload 17, 2) := by decide +kernel
theorem dL_law_1088 : decode cL_law 1088 = .ok (.iadd, 1) := by decide +kernel
theorem dL_law_1089 : decode cL_law 1089 = .ok (.aload 4, 2) := by decide +kernel
theorem dL_law_1091 : decode cL_law 1091 = .ok (.iconst 3, 1) := by decide +kernel
theorem dL_law_1092 : decode cL_law 1092 = .ok (.aload 5, 2) := by decide +kernel
theorem dL_law_1094 : decode cL_law 1094 = .ok (.iconst 1, 1) := by decide +kernel
theorem dL_law_1095 : decode cL_law 1095 = .ok (.iaload, 1) := by decide +kernel
theorem dL_law_1096 : decode cL_law 1096 = .ok (.imul, 1) := by decide +kernel
theorem dL_law_1097 : decode cL_law 1097 = .ok (.iload 17, 2) := by decide +kernel
theorem dL_law_1099 : decode cL_law 1099 = .ok (.iadd, 1) := by decide +kernel
theorem dL_law_1100 : decode cL_law 1100 = .ok (.iaload, 1) := by decide +kernel
theorem dL_law_1101 : decode cL_law 1101 = .ok (.iastore, 1) := by decide +kernel
theorem dL_law_1102 : decode cL_law 1102 = .ok (.iinc 17 1, 3) := by decide +kernel
theorem dL_law_1105 : decode cL_law 1105 = .ok (.goto (-31), 3) := by decide +kernel
theorem dL_law_1108 : decode cL_law 1108 = .ok (.goto 827, 3) := by decide +kernel
theorem dL_law_1111 : decode cL_law 1111 = .ok (.iload 12, 2) := by decide +kernel
theorem dL_law_1113 : decode cL_law 1113 = .ok (.bipush 9, 2) := by decide +kernel
theorem dL_law_1115 : decode cL_law 1115 = .ok (.if_icmp .ne 37, 3) := by decide +kernel
theorem dL_law_1118 : decode cL_law 1118 = .ok (.aload 5, 2) := by decide +kernel
theorem dL_law_1120 : decode cL_law 1120 = .ok (.iconst 2, 1) := by decide +kernel
theorem dL_law_1121 : decode cL_law 1121 = .ok (.iaload, 1) := by decide +kernel
theorem dL_law_1122 : decode cL_law 1122 = .ok (.istore 15, 2) := by decide +kernel
theorem dL_law_1124 : decode cL_law 1124 = .ok (.aload 5, 2) := by decide +kernel
theorem dL_law_1126 : decode cL_law 1126 = .ok (.iconst 2, 1) := by decide +kernel
theorem dL_law_1127 : decode cL_law 1127 = .ok (.iload 10, 2) := by decide +kernel
theorem dL_law_1129 : decode cL_law 1129 = .ok (.iconst 2, 1) := by decide +kernel
theorem dL_law_1130 : decode cL_law 1130 = .ok (.invokestatic 76, 3) := by decide +kernel
theorem dL_law_1133 : decode cL_law 1133 = .ok (.iastore, 1) := by decide +kernel
theorem dL_law_1134 : decode cL_law 1134 = .ok (.aload_n 1, 1) := by decide +kernel
theorem dL_law_1135 : decode cL_law 1135 = .ok (.aload 5, 2) := by decide +kernel
theorem dL_law_1137 : decode cL_law 1137 = .ok (.iconst 2, 1) := by decide +kernel
theorem dL_law_1138 : decode cL_law 1138 = .ok (.iaload, 1) := by decide +kernel
theorem dL_law_1139 : decode cL_law 1139 = .ok (.invokevirtual 173, 3) := by decide +kernel
theorem dL_law_1142 : decode cL_law 1142 = .ok (.iload 15, 2) := by decide +kernel
theorem dL_law_1144 : decode cL_law 1144 = .ok (.if_icmp .eq 5, 3) := by decide +kernel
theorem dL_law_1147 : decode cL_law 1147 = .ok (.iconst 0, 1) := by decide +kernel
theorem dL_law_1148 : decode cL_law 1148 = .ok (.ireturn, 1) := by decide +kernel
theorem dL_law_1149 : decode cL_law 1149 = .ok (.goto 786, 3) := by decide +kernel
theorem dL_law_1152 : decode cL_law 1152 = .ok (.iload 12, 2) := by decide +kernel
theorem dL_law_1154 : decode cL_law 1154 = .ok (.bipush 10, 2) := by decide +kernel
theorem dL_law_1156 : decode cL_law 1156 = .ok (.if_icmp .ne 135, 3) := by decide +kernel
theorem dL_law_1159 : decode cL_law 1159 = .ok (.iload 10, 2) := by decide +kernel
theorem dL_law_1161 : decode cL_law 1161 = .ok (.bipush 6, 2) := by decide +kernel
theorem dL_law_1163 : decode cL_law 1163 = .ok (.invokestatic 76, 3) := by decide +kernel
theorem dL_law_1166 : decode cL_law 1166 = .ok (.istore 15, 2) := by decide +kernel
theorem dL_law_1168 : decode cL_law 1168 = .ok (.aload 7, 2) := by decide +kernel
theorem dL_law_1170 : decode cL_law 1170 = .ok (.iload 15, 2) := by decide +kernel
theorem dL_law_1172 : decode cL_law 1172 = .ok (.iaload, 1) := by decide +kernel
theorem dL_law_1173 : decode cL_law 1173 = .ok (.istore 16, 2) := by decide +kernel
theorem dL_law_1175 : decode cL_law 1175 = .ok (.aload 7, 2) := by decide +kernel
theorem dL_law_1177 : decode cL_law 1177 = .ok (.iload 15, 2) := by decide +kernel
theorem dL_law_1179 : decode cL_law 1179 = .ok (.iload 10, 2) := by decide +kernel
theorem dL_law_1181 : decode cL_law 1181 = .ok (.iconst 3, 1) := by decide +kernel
theorem dL_law_1182 : decode cL_law 1182 = .ok (.ishr, 1) := by decide +kernel
theorem dL_law_1183 : decode cL_law 1183 = .ok (.bipush 7, 2) := by decide +kernel
theorem dL_law_1185 : decode cL_law 1185 = .ok (.invokestatic 76, 3) := by decide +kernel
theorem dL_law_1188 : decode cL_law 1188 = .ok (.iastore, 1) := by decide +kernel
theorem dL_law_1189 : decode cL_law 1189 = .ok (.aload_n 1, 1) := by decide +kernel
theorem dL_law_1190 : decode cL_law 1190 = .ok (.iload 15, 2) := by decide +kernel
theorem dL_law_1192 : decode cL_law 1192 = .ok (.aload 7, 2) := by decide +kernel
theorem dL_law_1194 : decode cL_law 1194 = .ok (.iload 15, 2) := by decide +kernel
theorem dL_law_1196 : decode cL_law 1196 = .ok (.iaload, 1) := by decide +kernel
theorem dL_law_1197 : decode cL_law 1197 = .ok (.invokevirtual 176, 3) := by decide +kernel
theorem dL_law_1200 : decode cL_law 1200 = .ok (.iload 16, 2) := by decide +kernel
theorem dL_law_1202 : decode cL_law 1202 = .ok (.if_icmp .eq 5, 3) := by decide +kernel
theorem dL_law_1205 : decode cL_law 1205 = .ok (.iconst 0, 1) := by decide +kernel
theorem dL_law_1206 : decode cL_law 1206 = .ok (.ireturn, 1) := by decide +kernel
theorem dL_law_1207 : decode cL_law 1207 = .ok (.aload 5, 2) := by decide +kernel
theorem dL_law_1209 : decode cL_law 1209 = .ok (.iconst 3, 1) := by decide +kernel
theorem dL_law_1210 : decode cL_law 1210 = .ok (.iaload, 1) := by decide +kernel
theorem dL_law_1211 : decode cL_law 1211 = .ok (.bipush 10, 2) := by decide +kernel
theorem dL_law_1213 : decode cL_law 1213 = .ok (.if_icmp .ge 75, 3) := by decide +kernel
theorem dL_law_1216 : decode cL_law 1216 = .ok (.aload 7, 2) := by decide +kernel
theorem dL_law_1218 : decode cL_law 1218 = .ok (.bipush 6, 2) := by decide +kernel
theorem dL_law_1220 : decode cL_law 1220 = .ok (.iconst 2, 1) := by decide +kernel
theorem dL_law_1221 : decode cL_law 1221 = .ok (.aload 5, 2) := by decide +kernel
theorem dL_law_1223 : decode cL_law 1223 = .ok (.iconst 3, 1) := by decide +kernel
theorem dL_law_1224 : decode cL_law 1224 = .ok (.iaload, 1) := by decide +kernel
theorem dL_law_1225 : decode cL_law 1225 = .ok (.imul, 1) := by decide +kernel
theorem dL_law_1226 : decode cL_law 1226 = .ok (.iadd, 1) := by decide +kernel
theorem dL_law_1227 : decode cL_law 1227 = .ok (.iload 15, 2) := by decide +kernel
theorem dL_law_1229 : decode cL_law 1229 = .ok (.iastore, 1) := by decide +kernel
theorem dL_law_1230 : decode cL_law 1230 = .ok (.aload 7, 2) := by decide +kernel
theorem dL_law_1232 : decode cL_law 1232 = .ok (.bipush 7, 2) := by decide +kernel
theorem dL_law_1234 : decode cL_law 1234 = .ok (.iconst 2, 1) := by decide +kernel
theorem dL_law_1235 : decode cL_law 1235 = .ok (.aload 5, 2) := by decide +kernel
theorem dL_law_1237 : decode cL_law 1237 = .ok (.iconst 3, 1) := by decide +kernel
theorem dL_law_1238 : decode cL_law 1238 = .ok (.iaload, 1) := by decide +kernel
theorem dL_law_1239 : decode cL_law 1239 = .ok (.imul, 1) := by decide +kernel
theorem dL_law_1240 : decode cL_law 1240 = .ok (.iadd, 1) := by decide +kernel
theorem dL_law_1241 : decode cL_law 1241 = .ok (.iload 10, 2) := by decide +kernel
theorem dL_law_1243 : decode cL_law 1243 = .ok (.bipush 6, 2) := by decide +kernel
theorem dL_law_1245 : decode cL_law 1245 = .ok (.ishr, 1) := by decide +kernel
theorem dL_law_1246 : decode cL_law 1246 = .ok (.bipush 7, 2) := by decide +kernel
theorem dL_law_1248 : decode cL_law 1248 = .ok (.invokestatic 76, 3) := by decide +kernel
theorem dL_law_1251 : decode cL_law 1251 = .ok (.iastore, 1) := by decide +kernel
theorem dL_law_1252 : decode cL_law 1252 = .ok (.aload 5, 2) := by decide +kernel
theorem dL_law_1254 : decode cL_law 1254 = .ok (.iconst 3, 1) := by decide +kernel
theorem dL_law_1255 : decode cL_law 1255 = .ok (.dup2, 1) := by decide +kernel
theorem dL_law_1256 : decode cL_law 1256 = .ok (.iaload, 1) := by decide +kernel
theorem dL_law_1257 : decode cL_law 1257 = .ok (.iconst 1, 1) := by decide +kernel
theorem dL_law_1258 : decode cL_law 1258 = .ok (.iadd, 1) := by decide +kernel
theorem dL_law_1259 : decode cL_law 1259 = .ok (.iastore, 1) := by decide +kernel
theorem dL_law_1260 : decode cL_law 1260 = .ok (.aload_n 1, 1) := by decide +kernel
theorem dL_law_1261 : decode cL_law 1261 = .ok (.iload 15, 2) := by decide +kernel
theorem dL_law_1263 : decode cL_law 1263 = .ok (.aload 7, 2) := by decide +kernel
theorem dL_law_1265 : decode cL_law 1265 = .ok (.iconst 5, 1) := by decide +kernel
theorem dL_law_1266 : decode cL_law 1266 = .ok (.iconst 2, 1) := by decide +kernel
theorem dL_law_1267 : decode cL_law 1267 = .ok (.aload 5, 2) := by decide +kernel
theorem dL_law_1269 : decode cL_law 1269 = .ok (.iconst 3, 1) := by decide +kernel
theorem dL_law_1270 : decode cL_law 1270 = .ok (.iaload, 1) := by decide +kernel
theorem dL_law_1271 : decode cL_law 1271 = .ok (.imul, 1) := by decide +kernel
theorem dL_law_1272 : decode cL_law 1272 = .ok (.iadd, 1) := by decide +kernel
theorem dL_law_1273 : decode cL_law 1273 = .ok (.iaload, 1) := by decide +kernel
theorem dL_law_1274 : decode cL_law 1274 = .ok (.invokevirtual 179, 3) := by decide +kernel
theorem dL_law_1277 : decode cL_law 1277 = .ok (.aload 5, 2) := by decide +kernel
theorem dL_law_1279 : decode cL_law 1279 = .ok (.iconst 3, 1) := by decide +kernel
theorem dL_law_1280 : decode cL_law 1280 = .ok (.iaload, 1) := by decide +kernel
theorem dL_law_1281 : decode cL_law 1281 = .ok (.iconst 1, 1) := by decide +kernel
theorem dL_law_1282 : decode cL_law 1282 = .ok (.isub, 1) := by decide +kernel
theorem dL_law_1283 : decode cL_law 1283 = .ok (.if_icmp .eq 5, 3) := by decide +kernel
theorem dL_law_1286 : decode cL_law 1286 = .ok (.iconst 0, 1) := by decide +kernel
theorem dL_law_1287 : decode cL_law 1287 = .ok (.ireturn, 1) := by decide +kernel
theorem dL_law_1288 : decode cL_law 1288 = .ok (.goto 647, 3) := by decide +kernel
theorem dL_law_1291 : decode cL_law 1291 = .ok (.iload 12, 2) := by decide +kernel
theorem dL_law_1293 : decode cL_law 1293 = .ok (.bipush 13, 2) := by decide +kernel
theorem dL_law_1295 : decode cL_law 1295 = .ok (.if_icmp .ge 337, 3) := by decide +kernel
theorem dL_law_1298 : decode cL_law 1298 = .ok (.aload 6, 2) := by decide +kernel
theorem dL_law_1300 : decode cL_law 1300 = .ok (.iconst 0, 1) := by decide +kernel
theorem dL_law_1301 : decode cL_law 1301 = .ok (.iload 10, 2) := by decide +kernel
theorem dL_law_1303 : decode cL_law 1303 = .ok (.iconst 3, 1) := by decide +kernel
theorem dL_law_1304 : decode cL_law 1304 = .ok (.invokestatic 76, 3) := by decide +kernel
theorem dL_law_1307 : decode cL_law 1307 = .ok (.iastore, 1) := by decide +kernel
theorem dL_law_1308 : decode cL_law 1308 = .ok (.iconst 0, 1) := by decide +kernel
theorem dL_law_1309 : decode cL_law 1309 = .ok (.istore 15, 2) := by decide +kernel
theorem dL_law_1311 : decode cL_law 1311 = .ok (.iload 15, 2) := by decide +kernel
theorem dL_law_1313 : decode cL_law 1313 = .ok (.iconst 2, 1) := by decide +kernel
theorem dL_law_1314 : decode cL_law 1314 = .ok (.if_icmp .ge 152, 3) := by decide +kernel
theorem dL_law_1317 : decode cL_law 1317 = .ok (.iload 15, 2) := by decide +kernel
theorem dL_law_1319 : decode cL_law 1319 = .ok (.ifCond .ne 10, 3) := by decide +kernel
theorem dL_law_1322 : decode cL_law 1322 = .ok (.iload 10, 2) := by decide +kernel
theorem dL_law_1324 : decode cL_law 1324 = .ok (.iconst 3, 1) := by decide +kernel
theorem dL_law_1325 : decode cL_law 1325 = .ok (.ishr, 1) := by decide +kernel
theorem dL_law_1326 : decode cL_law 1326 = .ok (.goto 7, 3) := by decide +kernel
theorem dL_law_1329 : decode cL_law 1329 = .ok (.iload 11, 2) := by decide +kernel
theorem dL_law_1331 : decode cL_law 1331 = .ok (.iconst 5, 1) := by decide +kernel
theorem dL_law_1332 : decode cL_law 1332 = .ok (.ishr, 1) := by decide +kernel
theorem dL_law_1333 : decode cL_law 1333 = .ok (.istore 16, 2) := by decide +kernel
theorem dL_law_1335 : decode cL_law 1335 = .ok (.aload 6, 2) := by decide +kernel
theorem dL_law_1337 : decode cL_law 1337 = .ok (.iconst 1, 1) := by decide +kernel
theorem dL_law_1338 : decode cL_law 1338 = .ok (.iconst 4, 1) := by decide +kernel
theorem dL_law_1339 : decode cL_law 1339 = .ok (.iload 15, 2) := by decide +kernel
theorem dL_law_1341 : decode cL_law 1341 = .ok (.imul, 1) := by decide +kernel
theorem dL_law_1342 : decode cL_law 1342 = .ok (.iadd, 1) := by decide +kernel
theorem dL_law_1343 : decode cL_law 1343 = .ok (.iload 16, 2) := by decide +kernel
theorem dL_law_1345 : decode cL_law 1345 = .ok (.iconst 2, 1) := by decide +kernel
theorem dL_law_1346 : decode cL_law 1346 = .ok (.invokestatic 76, 3) := by decide +kernel
theorem dL_law_1349 : decode cL_law 1349 = .ok (.iastore, 1) := by decide +kernel
theorem dL_law_1350 : decode cL_law 1350 = .ok (.aload 6, 2) := by decide +kernel
theorem dL_law_1352 : decode cL_law 1352 = .ok (.iconst 2, 1) := by decide +kernel
theorem dL_law_1353 : decode cL_law 1353 = .ok (.iconst 4, 1) := by decide +kernel
theorem dL_law_1354 : decode cL_law 1354 = .ok (.iload 15, 2) := by decide +kernel
theorem dL_law_1356 : decode cL_law 1356 = .ok (.imul, 1) := by decide +kernel
theorem dL_law_1357 : decode cL_law 1357 = .ok (.iadd, 1) := by decide +kernel
theorem dL_law_1358 : decode cL_law 1358 = .ok (.iconst 1, 1) := by decide +kernel
theorem dL_law_1359 : decode cL_law 1359 = .ok (.iload 16, 2) := by decide +kernel
theorem dL_law_1361 : decode cL_law 1361 = .ok (.iconst 1, 1) := by decide +kernel
theorem dL_law_1362 : decode cL_law 1362 = .ok (.ishr, 1) := by decide +kernel
theorem dL_law_1363 : decode cL_law 1363 = .ok (.iconst 5, 1) := by decide +kernel
theorem dL_law_1364 : decode cL_law 1364 = .ok (.invokestatic 76, 3) := by decide +kernel
theorem dL_law_1367 : decode cL_law 1367 = .ok (.iadd, 1) := by decide +kernel
theorem dL_law_1368 : decode cL_law 1368 = .ok (.iastore, 1) := by decide +kernel
theorem dL_law_1369 : decode cL_law 1369 = .ok (.aload 6, 2) := by decide +kernel
theorem dL_law_1371 : decode cL_law 1371 = .ok (.iconst 3, 1) := by decide +kernel
theorem dL_law_1372 : decode cL_law 1372 = .ok (.iconst 4, 1) := by decide +kernel
theorem dL_law_1373 : decode cL_law 1373 = .ok (.iload 15, 2) := by decide +kernel
theorem dL_law_1375 : decode cL_law 1375 = .ok (.imul, 1) := by decide +kernel
theorem dL_law_1376 : decode cL_law 1376 = .ok (.iadd, 1) := by decide +kernel
theorem dL_law_1377 : decode cL_law 1377 = .ok (.iload 16, 2) := by decide +kernel
theorem dL_law_1379 : decode cL_law 1379 = .ok (.iconst 4, 1) := by decide +kernel
theorem dL_law_1380 : decode cL_law 1380 = .ok (.ishr, 1) := by decide +kernel
theorem dL_law_1381 : decode cL_law 1381 = .ok (.aload 5, 2) := by decide +kernel
theorem dL_law_1383 : decode cL_law 1383 = .ok (.iconst 0, 1) := by decide +kernel
theorem dL_law_1384 : decode cL_law 1384 = .ok (.iaload, 1) := by decide +kernel
theorem dL_law_1385 : decode cL_law 1385 = .ok (.invokestatic 76, 3) := by decide +kernel
theorem dL_law_1388 : decode cL_law 1388 = .ok (.iastore, 1) := by decide +kernel
theorem dL_law_1389 : decode cL_law 1389 = .ok (.aload 6, 2) := by decide +kernel
theorem dL_law_1391 : decode cL_law 1391 = .ok (.iconst 4, 1) := by decide +kernel
theorem dL_law_1392 : decode cL_law 1392 = .ok (.iconst 4, 1) := by decide +kernel
theorem dL_law_1393 : decode cL_law 1393 = .ok (.iload 15, 2) := by decide +kernel
theorem dL_law_1395 : decode cL_law 1395 = .ok (.imul, 1) := by decide +kernel
theorem dL_law_1396 : decode cL_law 1396 = .ok (.iadd, 1) := by decide +kernel
theorem dL_law_1397 : decode cL_law 1397 = .ok (.aload 6, 2) := by decide +kernel
theorem dL_law_1399 : decode cL_law 1399 = .ok (.iconst 2, 1) := by decide +kernel
theorem dL_law_1400 : decode cL_law 1400 = .ok (.iconst 4, 1) := by decide +kernel
theorem dL_law_1401 : decode cL_law 1401 = .ok (.iload 15, 2) := by decide +kernel
theorem dL_law_1403 : decode cL_law 1403 = .ok (.imul, 1) := by decide +kernel
theorem dL_law_1404 : decode cL_law 1404 = .ok (.iadd, 1) := by decide +kernel
theorem dL_law_1405 : decode cL_law 1405 = .ok (.iaload, 1) := by decide +kernel
theorem dL_law_1406 : decode cL_law 1406 = .ok (.iconst 2, 1) := by decide +kernel
theorem dL_law_1407 : decode cL_law 1407 = .ok (.if_icmp .ne 14, 3) := by decide +kernel
theorem dL_law_1410 : decode cL_law 1410 = .ok (.iload 16, 2) := by decide +kernel
theorem dL_law_1412 : decode cL_law 1412 = .ok (.bipush 7, 2) := by decide +kernel
theorem dL_law_1414 : decode cL_law 1414 = .ok (.ishr, 1) := by decide +kernel
theorem dL_law_1415 : decode cL_law 1415 = .ok (.invokestatic 143, 3) := by decide +kernel
theorem dL_law_1418 : decode cL_law 1418 = .ok (.goto 41, 3) := by decide +kernel
theorem dL_law_1421 : decode cL_law 1421 = .ok (.aload 6, 2) := by decide +kernel
theorem dL_law_1423 : decode cL_law 1423 = .ok (.iconst 2, 1) := by decide +kernel
theorem dL_law_1424 : decode cL_law 1424 = .ok (.iconst 4, 1) := by decide +kernel
theorem dL_law_1425 : decode cL_law 1425 = .ok (.iload 15, 2) := by decide +kernel
theorem dL_law_1427 : decode cL_law 1427 = .ok (.imul, 1) := by decide +kernel
theorem dL_law_1428 : decode cL_law 1428 = .ok (.iadd, 1) := by decide +kernel
theorem dL_law_1429 : decode cL_law 1429 = .ok (.iaload, 1) := by decide +kernel
theorem dL_law_1430 : decode cL_law 1430 = .ok (.iconst 3, 1) := by decide +kernel
theorem dL_law_1431 : decode cL_law 1431 = .ok (.if_icmp .ne 16, 3) := by decide +kernel
theorem dL_law_1434 : decode cL_law 1434 = .ok (.iload 16, 2) := by decide +kernel
theorem dL_law_1436 : decode cL_law 1436 = .ok (.bipush 7, 2) := by decide +kernel
theorem dL_law_1438 : decode cL_law 1438 = .ok (.ishr, 1) := by decide +kernel
theorem dL_law_1439 : decode cL_law 1439 = .ok (.bipush 7, 2) := by decide +kernel
theorem dL_law_1441 : decode cL_law 1441 = .ok (.invokestatic 76, 3) := by decide +kernel
theorem dL_law_1444 : decode cL_law 1444 = .ok (.goto 15, 3) := by decide +kernel
theorem dL_law_1447 : decode cL_law 1447 = .ok (.iload 16, 2) := by decide +kernel
theorem dL_law_1449 : decode cL_law 1449 = .ok (.bipush 7, 2) := by decide +kernel
theorem dL_law_1451 : decode cL_law 1451 = .ok (.ishr, 1) := by decide +kernel
theorem dL_law_1452 : decode cL_law 1452 = .ok (.aload 5, 2) := by decide +kernel
theorem dL_law_1454 : decode cL_law 1454 = .ok (.iconst 0, 1) := by decide +kernel
theorem dL_law_1455 : decode cL_law 1455 = .ok (.iaload, 1) := by decide +kernel
theorem dL_law_1456 : decode cL_law 1456 = .ok (.invokestatic 76, 3) := by decide +kernel
theorem dL_law_1459 : decode cL_law 1459 = .ok (.iastore, 1) := by decide +kernel
theorem dL_law_1460 : decode cL_law 1460 = .ok (.iinc 15 1, 3) := by decide +kernel
theorem dL_law_1463 : decode cL_law 1463 = .ok (.goto (-152), 3) := by decide +kernel
theorem dL_law_1466 : decode cL_law 1466 = .ok (.aload 6, 2) := by decide +kernel
theorem dL_law_1468 : decode cL_law 1468 = .ok (.iconst 0, 1) := by decide +kernel
theorem dL_law_1469 : decode cL_law 1469 = .ok (.iaload, 1) := by decide +kernel
theorem dL_law_1470 : decode cL_law 1470 = .ok (.ifCond .le 10, 3) := by decide +kernel
theorem dL_law_1473 : decode cL_law 1473 = .ok (.aload_n 1, 1) := by decide +kernel
theorem dL_law_1474 : decode cL_law 1474 = .ok (.bipush 40, 2) := by decide +kernel
theorem dL_law_1476 : decode cL_law 1476 = .ok (.invokevirtual 62, 3) := by decide +kernel
theorem dL_law_1479 : decode cL_law 1479 = .ok (.pop, 1) := by decide +kernel
theorem dL_law_1480 : decode cL_law 1480 = .ok (.aload_n 1, 1) := by decide +kernel
theorem dL_law_1481 : decode cL_law 1481 = .ok (.aload 6, 2) := by decide +kernel
theorem dL_law_1483 : decode cL_law 1483 = .ok (.iconst 1, 1) := by decide +kernel
theorem dL_law_1484 : decode cL_law 1484 = .ok (.invokestatic 182, 3) := by decide +kernel
theorem dL_law_1487 : decode cL_law 1487 = .ok (.aload 6, 2) := by decide +kernel
theorem dL_law_1489 : decode cL_law 1489 = .ok (.iconst 0, 1) := by decide +kernel
theorem dL_law_1490 : decode cL_law 1490 = .ok (.iaload, 1) := by decide +kernel
theorem dL_law_1491 : decode cL_law 1491 = .ok (.ifCond .le 37, 3) := by decide +kernel
theorem dL_law_1494 : decode cL_law 1494 = .ok (.aload_n 1, 1) := by decide +kernel
theorem dL_law_1495 : decode cL_law 1495 = .ok (.aload 6, 2) := by decide +kernel
theorem dL_law_1497 : decode cL_law 1497 = .ok (.iconst 0, 1) := by decide +kernel
theorem dL_law_1498 : decode cL_law 1498 = .ok (.iaload, 1) := by decide +kernel
theorem dL_law_1499 : decode cL_law 1499 = .ok (.iconst 1, 1) := by decide +kernel
theorem dL_law_1500 : decode cL_law 1500 = .ok (.if_icmp .ne 8, 3) := by decide +kernel
theorem dL_law_1503 : decode cL_law 1503 = .ok (.bipush 38, 2) := by decide +kernel
theorem dL_law_1505 : decode cL_law 1505 = .ok (.goto 5, 3) := by decide +kernel
theorem dL_law_1508 : decode cL_law 1508 = .ok (.bipush 124, 2) := by decide +kernel
theorem dL_law_1510 : decode cL_law 1510 = .ok (.invokevirtual 62, 3) := by decide +kernel
theorem dL_law_1513 : decode cL_law 1513 = .ok (.pop, 1) := by decide +kernel
theorem dL_law_1514 : decode cL_law 1514 = .ok (.aload_n 1, 1) := by decide +kernel
theorem dL_law_1515 : decode cL_law 1515 = .ok (.aload 6, 2) := by decide +kernel
theorem dL_law_1517 : decode cL_law 1517 = .ok (.iconst 5, 1) := by decide +kernel
theorem dL_law_1518 : decode cL_law 1518 = .ok (.invokestatic 182, 3) := by decide +kernel
theorem dL_law_1521 : decode cL_law 1521 = .ok (.aload_n 1, 1) := by decide +kernel
theorem dL_law_1522 : decode cL_law 1522 = .ok (.bipush 41, 2) := by decide +kernel
theorem dL_law_1524 : decode cL_law 1524 = .ok (.invokevirtual 62, 3) := by decide +kernel
theorem dL_law_1527 : decode cL_law 1527 = .ok (.pop, 1) := by decide +kernel
theorem dL_law_1528 : decode cL_law 1528 = .ok (.aload 5, 2) := by decide +kernel
theorem dL_law_1530 : decode cL_law 1530 = .ok (.iconst 4, 1) := by decide +kernel
theorem dL_law_1531 : decode cL_law 1531 = .ok (.iload 9, 2) := by decide +kernel
theorem dL_law_1533 : decode cL_law 1533 = .ok (.bipush 9, 2) := by decide +kernel
theorem dL_law_1535 : decode cL_law 1535 = .ok (.ishr, 1) := by decide +kernel
theorem dL_law_1536 : decode cL_law 1536 = .ok (.sipush 390, 3) := by decide +kernel
theorem dL_law_1539 : decode cL_law 1539 = .ok (.invokestatic 76, 3) := by decide +kernel
theorem dL_law_1542 : decode cL_law 1542 = .ok (.iastore, 1) := by decide +kernel
theorem dL_law_1543 : decode cL_law 1543 = .ok (.bipush 10, 2) := by decide +kernel
theorem dL_law_1545 : decode cL_law 1545 = .ok (.newarray .int, 2) := by decide +kernel
theorem dL_law_1547 : decode cL_law 1547 = .ok (.astore 15, 2) := by decide +kernel
theorem dL_law_1549 : decode cL_law 1549 = .ok (.bipush 10, 2) := by decide +kernel
theorem dL_law_1551 : decode cL_law 1551 = .ok (.newarray .int, 2) := by decide +kernel
theorem dL_law_1553 : decode cL_law 1553 = .ok (.astore 16, 2) := by decide +kernel
theorem dL_law_1555 : decode cL_law 1555 = .ok (.aload_n 2, 1) := by decide +kernel
theorem dL_law_1556 : decode cL_law 1556 = .ok (.aload 4, 2) := by decide +kernel
theorem dL_law_1558 : decode cL_law 1558 = .ok (.aload 5, 2) := by decide +kernel
theorem dL_law_1560 : decode cL_law 1560 = .ok (.aload 5, 2) := by decide +kernel
theorem dL_law_1562 : decode cL_law 1562 = .ok (.iconst 4, 1) := by decide +kernel
theorem dL_law_1563 : decode cL_law 1563 = .ok (.iaload, 1) := by decide +kernel
theorem dL_law_1564 : decode cL_law 1564 = .ok (.aload 5, 2) := by decide +kernel
theorem dL_law_1566 : decode cL_law 1566 = .ok (.iconst 2, 1) := by decide +kernel
theorem dL_law_1567 : decode cL_law 1567 = .ok (.iaload, 1) := by decide +kernel
theorem dL_law_1568 : decode cL_law 1568 = .ok (.aload 15, 2) := by decide +kernel
theorem dL_law_1570 : decode cL_law 1570 = .ok (.aload 16, 2) := by decide +kernel
theorem dL_law_1572 : decode cL_law 1572 = .ok (.invokestatic 99, 3) := by decide +kernel
theorem dL_law_1575 : decode cL_law 1575 = .ok (.iconst 1, 1) := by decide +kernel
theorem dL_law_1576 : decode cL_law 1576 = .ok (.istore 17, 2) := by decide +kernel
theorem dL_law_1578 : decode cL_law 1578 = .ok (.iconst 0, 1) := by decide +kernel
theorem dL_law_1579 : decode cL_law 1579 = .ok (.istore 18, 2) := by decide +kernel
theorem dL_law_1581 : decode cL_law 1581 = .ok (.iload 18, 2) := by decide +kernel
theorem dL_law_1583 : decode cL_law 1583 = .ok (.aload 5, 2) := by decide +kernel
theorem dL_law_1585 : decode cL_law 1585 = .ok (.iconst 0, 1) := by decide +kernel
theorem dL_law_1586 : decode cL_law 1586 = .ok (.iaload, 1) := by decide +kernel
theorem dL_law_1587 : decode cL_law 1587 = .ok (.if_icmp .ge 19, 3) := by decide +kernel
theorem dL_law_1590 : decode cL_law 1590 = .ok (.iload 17, 2) := by decide +kernel
theorem dL_law_1592 : decode cL_law 1592 = .ok (.aload 16, 2) := by decide +kernel
theorem dL_law_1594 : decode cL_law 1594 = .ok (.iload 18, 2) := by decide +kernel
theorem dL_law_1596 : decode cL_law 1596 = .ok (.iaload, 1) := by decide +kernel
theorem dL_law_1597 : decode cL_law 1597 = .ok (.iadd, 1) := by decide +kernel
theorem dL_law_1598 : decode cL_law 1598 = .ok (.istore 17, 2) := by decide +kernel
theorem dL_law_1600 : decode cL_law 1600 = .ok (.iinc 18 1, 3) := by decide +kernel
theorem dL_law_1603 : decode cL_law 1603 = .ok (.goto (-22), 3) := by decide +kernel
theorem dL_law_1606 : decode cL_law 1606 = .ok (.aload_n 1, 1) := by decide +kernel
theorem dL_law_1607 : decode cL_law 1607 = .ok (.invokevirtual 185, 3) := by decide +kernel
theorem dL_law_1610 : decode cL_law 1610 = .ok (.iconst (-1), 1) := by decide +kernel
theorem dL_law_1611 : decode cL_law 1611 = .ok (.if_icmp .ne 16, 3) := by decide +kernel
theorem dL_law_1614 : decode cL_law 1614 = .ok (.aload_n 1, 1) := by decide +kernel
theorem dL_law_1615 : decode cL_law 1615 = .ok (.aload 5, 2) := by decide +kernel
theorem dL_law_1617 : decode cL_law 1617 = .ok (.iconst 4, 1) := by decide +kernel
theorem dL_law_1618 : decode cL_law 1618 = .ok (.iaload, 1) := by decide +kernel
theorem dL_law_1619 : decode cL_law 1619 = .ok (.invokevirtual 188, 3) := by decide +kernel
theorem dL_law_1622 : decode cL_law 1622 = .ok (.iload 17, 2) := by decide +kernel
theorem dL_law_1624 : decode cL_law 1624 = .ok (.if_icmp .eq 5, 3) := by decide +kernel
theorem dL_law_1627 : decode cL_law 1627 = .ok (.iconst 0, 1) := by decide +kernel
theorem dL_law_1628 : decode cL_law 1628 = .ok (.ireturn, 1) := by decide +kernel
theorem dL_law_1629 : decode cL_law 1629 = .ok (.goto 306, 3) := by decide +kernel
theorem dL_law_1632 : decode cL_law 1632 = .ok (.aload 5, 2) := by decide +kernel
theorem dL_law_1634 : decode cL_law 1634 = .ok (.iconst 4, 1) := by decide +kernel
theorem dL_law_1635 : decode cL_law 1635 = .ok (.iaload, 1) := by decide +kernel
theorem dL_law_1636 : decode cL_law 1636 = .ok (.ifCond .ge 17, 3) := by decide +kernel
theorem dL_law_1639 : decode cL_law 1639 = .ok (.aload_n 1, 1) := by decide +kernel
theorem dL_law_1640 : decode cL_law 1640 = .ok (.iconst 2, 1) := by decide +kernel
theorem dL_law_1641 : decode cL_law 1641 = .ok (.iconst 5, 1) := by decide +kernel
theorem dL_law_1642 : decode cL_law 1642 = .ok (.iconst 0, 1) := by decide +kernel
theorem dL_law_1643 : decode cL_law 1643 = .ok (.iconst 0, 1) := by decide +kernel
theorem dL_law_1644 : decode cL_law 1644 = .ok (.invokestatic 169, 3) := by decide +kernel
theorem dL_law_1647 : decode cL_law 1647 = .ok (.iconst 3, 1) := by decide +kernel
theorem dL_law_1648 : decode cL_law 1648 = .ok (.if_icmp .eq 287, 3) := by decide +kernel
theorem dL_law_1651 : decode cL_law 1651 = .ok (.iconst 0, 1) := by decide +kernel
theorem dL_law_1652 : decode cL_law 1652 = .ok (.ireturn, 1) := by decide +kernel
theorem dL_law_1653 : decode cL_law 1653 = .ok (.iconst 1, 1) := by decide +kernel
theorem dL_law_1654 : decode cL_law 1654 = .ok (.iload 10, 2) := by decide +kernel
theorem dL_law_1656 : decode cL_law 1656 = .ok (.sipush 200, 3) := by decide +kernel
theorem dL_law_1659 : decode cL_law 1659 = .ok (.invokestatic 76, 3) := by decide +kernel
theorem dL_law_1662 : decode cL_law 1662 = .ok (.iadd, 1) := by decide +kernel
theorem dL_law_1663 : decode cL_law 1663 = .ok (.istore 15, 2) := by decide +kernel
theorem dL_law_1665 : decode cL_law 1665 = .ok (.iload 15, 2) := by decide +kernel
theorem dL_law_1667 : decode cL_law 1667 = .ok (.istore 16, 2) := by decide +kernel
theorem dL_law_1669 : decode cL_law 1669 = .ok (.bipush (-2), 2) := by decide +kernel
theorem dL_law_1671 : decode cL_law 1671 = .ok (.istore 17, 2) := by decide +kernel
theorem dL_law_1673 : decode cL_law 1673 = .ok (.iload 17, 2) := by decide +kernel
theorem dL_law_1675 : decode cL_law 1675 = .ok (.bipush (-2), 2) := by decide +kernel
theorem dL_law_1677 : decode cL_law 1677 = .ok (.if_icmp .ne 232, 3) := by decide +kernel
theorem dL_law_1680 : decode cL_law 1680 = .ok (.aload 5, 2) := by decide +kernel
theorem dL_law_1682 : decode cL_law 1682 = .ok (.iconst 4, 1) := by decide +kernel
theorem dL_law_1683 : decode cL_law 1683 = .ok (.iaload, 1) := by decide +kernel
theorem dL_law_1684 : decode cL_law 1684 = .ok (.sipush 400, 3) := by decide +kernel
theorem dL_law_1687 : decode cL_law 1687 = .ok (.if_icmp .ne 9, 3) := by decide +kernel
theorem dL_law_1690 : decode cL_law 1690 = .ok (.iconst (-1), 1) := by decide +kernel
theorem dL_law_1691 : decode cL_law 1691 = .ok (.istore 17, 2) := by decide +kernel
theorem dL_law_1693 : decode cL_law 1693 = .ok (.goto 216, 3) := by decide +kernel
theorem dL_law_1696 : decode cL_law 1696 = .ok (.bipush 10, 2) := by decide +kernel
theorem dL_law_1698 : decode cL_law 1698 = .ok (.newarray .int, 2) := by decide +kernel
theorem dL_law_1700 : decode cL_law 1700 = .ok (.astore 18, 2) := by decide +kernel
theorem dL_law_1702 : decode cL_law 1702 = .ok (.bipush 10, 2) := by decide +kernel
theorem dL_law_1704 : decode cL_law 1704 = .ok (.newarray .int, 2) := by decide +kernel
theorem dL_law_1706 : decode cL_law 1706 = .ok (.astore 19, 2) := by decide +kernel
theorem dL_law_1708 : decode cL_law 1708 = .ok (.bipush 10, 2) := by decide +kernel
theorem dL_law_1710 : decode cL_law 1710 = .ok (.newarray .int, 2) := by decide +kernel
theorem dL_law_1712 : decode cL_law 1712 = .ok (.astore 20, 2) := by decide +kernel
theorem dL_law_1714 : decode cL_law 1714 = .ok (.aload_n 2, 1) := by decide +kernel
theorem dL_law_1715 : decode cL_law 1715 = .ok (.aload 4, 2) := by decide +kernel
theorem dL_law_1717 : decode cL_law 1717 = .ok (.aload 5, 2) := by decide +kernel
theorem dL_law_1719 : decode cL_law 1719 = .ok (.aload 5, 2) := by decide +kernel
theorem dL_law_1721 : decode cL_law 1721 = .ok (.iconst 4, 1) := by decide +kernel
theorem dL_law_1722 : decode cL_law 1722 = .ok (.iaload, 1) := by decide +kernel
theorem dL_law_1723 : decode cL_law 1723 = .ok (.aload 5, 2) := by decide +kernel
theorem dL_law_1725 : decode cL_law 1725 = .ok (.iconst 2, 1) := by decide +kernel
theorem dL_law_1726 : decode cL_law 1726 = .ok (.iaload, 1) := by decide +kernel
theorem dL_law_1727 : decode cL_law 1727 = .ok (.aload 18, 2) := by decide +kernel
theorem dL_law_1729 : decode cL_law 1729 = .ok (.aload 19, 2) := by decide +kernel
theorem dL_law_1731 : decode cL_law 1731 = .ok (.invokestatic 99, 3) := by decide +kernel
theorem dL_law_1734 : decode cL_law 1734 = .ok (.iconst 1, 1) := by decide +kernel
theorem dL_law_1735 : decode cL_law 1735 = .ok (.istore 21, 2) := by decide +kernel
theorem dL_law_1737 : decode cL_law 1737 = .ok (.iconst 0, 1) := by decide +kernel
theorem dL_law_1738 : decode cL_law 1738 = .ok (.istore 22, 2) := by decide +kernel
theorem dL_law_1740 : decode cL_law 1740 = .ok (.iload 22, 2) := by decide +kernel
theorem dL_law_1742 : decode cL_law 1742 = .ok (.aload 5, 2) := by decide +kernel
theorem dL_law_1744 : decode cL_law 1744 = .ok (.iconst 0, 1) := by decide +kernel
theorem dL_law_1745 : decode cL_law 1745 = .ok (.iaload, 1) := by decide +kernel
theorem dL_law_1746 : decode cL_law 1746 = .ok (.if_icmp .ge 19, 3) := by decide +kernel
theorem dL_law_1749 : decode cL_law 1749 = .ok (.iload 21, 2) := by decide +kernel
theorem dL_law_1751 : decode cL_law 1751 = .ok (.aload 19, 2) := by decide +kernel
theorem dL_law_1753 : decode cL_law 1753 = .ok (.iload 22, 2) := by decide +kernel
theorem dL_law_1755 : decode cL_law 1755 = .ok (.iaload, 1) := by decide +kernel
theorem dL_law_1756 : decode cL_law 1756 = .ok (.iadd, 1) := by decide +kernel
theorem dL_law_1757 : decode cL_law 1757 = .ok (.istore 21, 2) := by decide +kernel
theorem dL_law_1759 : decode cL_law 1759 = .ok (.iinc 22 1, 3) := by decide +kernel
theorem dL_law_1762 : decode cL_law 1762 = .ok (.goto (-22), 3) := by decide +kernel
theorem dL_law_1765 : decode cL_law 1765 = .ok (.iload 21, 2) := by decide +kernel
theorem dL_law_1767 : decode cL_law 1767 = .ok (.iload 15, 2) := by decide +kernel
theorem dL_law_1769 : decode cL_law 1769 = .ok (.if_icmp .le 6, 3) := by decide +kernel
theorem dL_law_1772 : decode cL_law 1772 = .ok (.goto 137, 3) := by decide +kernel
theorem dL_law_1775 : decode cL_law 1775 = .ok (.iload 15, 2) := by decide +kernel
theorem dL_law_1777 : decode cL_law 1777 = .ok (.iload 21, 2) := by decide +kernel
theorem dL_law_1779 : decode cL_law 1779 = .ok (.isub, 1) := by decide +kernel
theorem dL_law_1780 : decode cL_law 1780 = .ok (.istore 15, 2) := by decide +kernel
theorem dL_law_1782 : decode cL_law 1782 = .ok (.aload 5, 2) := by decide +kernel
theorem dL_law_1784 : decode cL_law 1784 = .ok (.iconst 5, 1) := by decide +kernel
theorem dL_law_1785 : decode cL_law 1785 = .ok (.dup2, 1) := by decide +kernel
theorem dL_law_1786 : decode cL_law 1786 = .ok (.iaload, 1) := by decide +kernel
theorem dL_law_1787 : decode cL_law 1787 = .ok (.iload 21, 2) := by decide +kernel
theorem dL_law_1789 : decode cL_law 1789 = .ok (.iadd, 1) := by decide +kernel
theorem dL_law_1790 : decode cL_law 1790 = .ok (.iastore, 1) := by decide +kernel
theorem dL_law_1791 : decode cL_law 1791 = .ok (.aload_n 3, 1) := by decide +kernel
theorem dL_law_1792 : decode cL_law 1792 = .ok (.aload 5, 2) := by decide +kernel
theorem dL_law_1794 : decode cL_law 1794 = .ok (.aload 5, 2) := by decide +kernel
theorem dL_law_1796 : decode cL_law 1796 = .ok (.iconst 4, 1) := by decide +kernel
theorem dL_law_1797 : decode cL_law 1797 = .ok (.iaload, 1) := by decide +kernel
theorem dL_law_1798 : decode cL_law 1798 = .ok (.aload 18, 2) := by decide +kernel
theorem dL_law_1800 : decode cL_law 1800 = .ok (.aload 20, 2) := by decide +kernel
theorem dL_law_1802 : decode cL_law 1802 = .ok (.invokestatic 103, 3) := by decide +kernel
theorem dL_law_1805 : decode cL_law 1805 = .ok (.aload 6, 2) := by decide +kernel
theorem dL_law_1807 : decode cL_law 1807 = .ok (.iconst 1, 1) := by decide +kernel
theorem dL_law_1808 : decode cL_law 1808 = .ok (.aload 5, 2) := by decide +kernel
theorem dL_law_1810 : decode cL_law 1810 = .ok (.iconst 4, 1) := by decide +kernel
theorem dL_law_1811 : decode cL_law 1811 = .ok (.iaload, 1) := by decide +kernel
theorem dL_law_1812 : decode cL_law 1812 = .ok (.aload 5, 2) := by decide +kernel
theorem dL_law_1814 : decode cL_law 1814 = .ok (.aload 18, 2) := by decide +kernel
theorem dL_law_1816 : decode cL_law 1816 = .ok (.aload 20, 2) := by decide +kernel
theorem dL_law_1818 : decode cL_law 1818 = .ok (.invokestatic 191, 3) := by decide +kernel
theorem dL_law_1821 : decode cL_law 1821 = .ok (.istore 22, 2) := by decide +kernel
theorem dL_law_1823 : decode cL_law 1823 = .ok (.aload 6, 2) := by decide +kernel
theorem dL_law_1825 : decode cL_law 1825 = .ok (.iconst 0, 1) := by decide +kernel
theorem dL_law_1826 : decode cL_law 1826 = .ok (.iaload, 1) := by decide +kernel
theorem dL_law_1827 : decode cL_law 1827 = .ok (.ifCond .le 26, 3) := by decide +kernel
theorem dL_law_1830 : decode cL_law 1830 = .ok (.aload 6, 2) := by decide +kernel
theorem dL_law_1832 : decode cL_law 1832 = .ok (.iconst 5, 1) := by decide +kernel
theorem dL_law_1833 : decode cL_law 1833 = .ok (.aload 5, 2) := by decide +kernel
theorem dL_law_1835 : decode cL_law 1835 = .ok (.iconst 4, 1) := by decide +kernel
theorem dL_law_1836 : decode cL_law 1836 = .ok (.iaload, 1) := by decide +kernel
theorem dL_law_1837 : decode cL_law 1837 = .ok (.aload 5, 2) := by decide +kernel
theorem dL_law_1839 : decode cL_law 1839 = .ok (.aload 18, 2) := by decide +kernel
theorem dL_law_1841 : decode cL_law 1841 = .ok (.aload 20, 2) := by decide +kernel
theorem dL_law_1843 : decode cL_law 1843 = .ok (.invokestatic 191, 3) := by decide +kernel
theorem dL_law_1846 : decode cL_law 1846 = .ok (.ifCond .eq 7, 3) := by decide +kernel
theorem dL_law_1849 : decode cL_law 1849 = .ok (.iconst 1, 1) := by decide +kernel
theorem dL_law_1850 : decode cL_law 1850 = .ok (.goto 4, 3) := by decide +kernel
theorem dL_law_1853 : decode cL_law 1853 = .ok (.iconst 0, 1) := by decide +kernel
theorem dL_law_1854 : decode cL_law 1854 = .ok (.istore 23, 2) := by decide +kernel
theorem dL_law_1856 : decode cL_law 1856 = .ok (.aload 5, 2) := by decide +kernel
theorem dL_law_1858 : decode cL_law 1858 = .ok (.iconst 4, 1) := by decide +kernel
theorem dL_law_1859 : decode cL_law 1859 = .ok (.dup2, 1) := by decide +kernel
theorem dL_law_1860 : decode cL_law 1860 = .ok (.iaload, 1) := by decide +kernel
theorem dL_law_1861 : decode cL_law 1861 = .ok (.iconst 1, 1) := by decide +kernel
theorem dL_law_1862 : decode cL_law 1862 = .ok (.iadd, 1) := by decide +kernel
theorem dL_law_1863 : decode cL_law 1863 = .ok (.iastore, 1) := by decide +kernel
theorem dL_law_1864 : decode cL_law 1864 = .ok (.aload 6, 2) := by decide +kernel
theorem dL_law_1866 : decode cL_law 1866 = .ok (.iconst 0, 1) := by decide +kernel
theorem dL_law_1867 : decode cL_law 1867 = .ok (.iaload, 1) := by decide +kernel
theorem dL_law_1868 : decode cL_law 1868 = .ok (.iconst 1, 1) := by decide +kernel
theorem dL_law_1869 : decode cL_law 1869 = .ok (.if_icmp .ne 16, 3) := by decide +kernel
theorem dL_law_1872 : decode cL_law 1872 = .ok (.iload 22, 2) := by decide +kernel
theorem dL_law_1874 : decode cL_law 1874 = .ok (.ifCond .eq 32, 3) := by decide +kernel
theorem dL_law_1877 : decode cL_law 1877 = .ok (.iload 23, 2) := by decide +kernel
theorem dL_law_1879 : decode cL_law 1879 = .ok (.ifCond .eq 27, 3) := by decide +kernel
theorem dL_law_1882 : decode cL_law 1882 = .ok (.goto 13, 3) := by decide +kernel
theorem dL_law_1885 : decode cL_law 1885 = .ok (.iload 22, 2) := by decide +kernel
theorem dL_law_1887 : decode cL_law 1887 = .ok (.ifCond .ne 8, 3) := by decide +kernel
theorem dL_law_1890 : decode cL_law 1890 = .ok (.iload 23, 2) := by decide +kernel
theorem dL_law_1892 : decode cL_law 1892 = .ok (.ifCond .eq 14, 3) := by decide +kernel
theorem dL_law_1895 : decode cL_law 1895 = .ok (.aload 5, 2) := by decide +kernel
theorem dL_law_1897 : decode cL_law 1897 = .ok (.iconst 4, 1) := by decide +kernel
theorem dL_law_1898 : decode cL_law 1898 = .ok (.iaload, 1) := by decide +kernel
theorem dL_law_1899 : decode cL_law 1899 = .ok (.iconst 1, 1) := by decide +kernel
theorem dL_law_1900 : decode cL_law 1900 = .ok (.isub, 1) := by decide +kernel
theorem dL_law_1901 : decode cL_law 1901 = .ok (.istore 17, 2) := by decide +kernel
theorem dL_law_1903 : decode cL_law 1903 = .ok (.goto 6, 3) := by decide +kernel
theorem dL_law_1906 : decode cL_law 1906 = .ok (.goto (-233), 3) := by decide +kernel
theorem dL_law_1909 : decode cL_law 1909 = .ok (.aload_n 1, 1) := by decide +kernel
theorem dL_law_1910 : decode cL_law 1910 = .ok (.iload 16, 2) := by decide +kernel
theorem dL_law_1912 : decode cL_law 1912 = .ok (.invokevirtual 86, 3) := by decide +kernel
theorem dL_law_1915 : decode cL_law 1915 = .ok (.iload 17, 2) := by decide +kernel
theorem dL_law_1917 : decode cL_law 1917 = .ok (.if_icmp .ne 16, 3) := by decide +kernel
theorem dL_law_1920 : decode cL_law 1920 = .ok (.aload_n 1, 1) := by decide +kernel
theorem dL_law_1921 : decode cL_law 1921 = .ok (.invokevirtual 195, 3) := by decide +kernel
theorem dL_law_1924 : decode cL_law 1924 = .ok (.aload 5, 2) := by decide +kernel
theorem dL_law_1926 : decode cL_law 1926 = .ok (.iconst 5, 1) := by decide +kernel
theorem dL_law_1927 : decode cL_law 1927 = .ok (.iaload, 1) := by decide +kernel
theorem dL_law_1928 : decode cL_law 1928 = .ok (.i2l, 1) := by decide +kernel
theorem dL_law_1929 : decode cL_law 1929 = .ok (.lcmp, 1) := by decide +kernel
theorem dL_law_1930 : decode cL_law 1930 = .ok (.ifCond .eq 5, 3) := by decide +kernel
theorem dL_law_1933 : decode cL_law 1933 = .ok (.iconst 0, 1) := by decide +kernel
theorem dL_law_1934 : decode cL_law 1934 = .ok (.ireturn, 1) := by decide +kernel
theorem dL_law_1935 : decode cL_law 1935 = .ok (.aload_n 1, 1) := by decide +kernel
theorem dL_law_1936 : decode cL_law 1936 = .ok (.aload_n 2, 1) := by decide +kernel
theorem dL_law_1937 : decode cL_law 1937 = .ok (.aload_n 3, 1) := by decide +kernel
theorem dL_law_1938 : decode cL_law 1938 = .ok (.aload 4, 2) := by decide +kernel
theorem dL_law_1940 : decode cL_law 1940 = .ok (.aload 5, 2) := by decide +kernel
theorem dL_law_1942 : decode cL_law 1942 = .ok (.aload 7, 2) := by decide +kernel
theorem dL_law_1944 : decode cL_law 1944 = .ok (.iload 14, 2) := by decide +kernel
theorem dL_law_1946 : decode cL_law 1946 = .ok (.invokestatic 199, 3) := by decide +kernel
theorem dL_law_1949 : decode cL_law 1949 = .ok (.ifCond .ne 5, 3) := by decide +kernel
theorem dL_law_1952 : decode cL_law 1952 = .ok (.iconst 0, 1) := by decide +kernel
theorem dL_law_1953 : decode cL_law 1953 = .ok (.ireturn, 1) := by decide +kernel
theorem dL_law_1954 : decode cL_law 1954 = .ok (.iinc 8 1, 3) := by decide +kernel
theorem dL_law_1957 : decode cL_law 1957 = .ok (.goto (-1907), 3) := by decide +kernel
theorem dL_law_1960 : decode cL_law 1960 = .ok (.iconst 1, 1) := by decide +kernel
theorem dL_law_1961 : decode cL_law 1961 = .ok (.ireturn, 1) := by decide +kernel
