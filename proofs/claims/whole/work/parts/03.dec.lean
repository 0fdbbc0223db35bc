theorem dX0_withDigit_0 : decode cX0_withDigit 0 = .ok (.iload_n 0, 1) := by decide +kernel
theorem dX0_withDigit_1 : decode cX0_withDigit 1 = .ok (.iload_n 1, 1) := by decide +kernel
theorem dX0_withDigit_2 : decode cX0_withDigit 2 = .ok (.bipush 6, 2) := by decide +kernel
theorem dX0_withDigit_4 : decode cX0_withDigit 4 = .ok (.ishl, 1) := by decide +kernel
theorem dX0_withDigit_5 : decode cX0_withDigit 5 = .ok (.ior, 1) := by decide +kernel
theorem dX0_withDigit_6 : decode cX0_withDigit 6 = .ok (.ireturn, 1) := by decide +kernel
theorem dX0_withStep_0 : decode cX0_withStep 0 = .ok (.iload_n 0, 1) := by decide +kernel
theorem dX0_withStep_1 : decode cX0_withStep 1 = .ok (.iload_n 1, 1) := by decide +kernel
theorem dX0_withStep_2 : decode cX0_withStep 2 = .ok (.iload_n 2, 1) := by decide +kernel
theorem dX0_withStep_3 : decode cX0_withStep 3 = .ok (.iconst 4, 1) := by decide +kernel
theorem dX0_withStep_4 : decode cX0_withStep 4 = .ok (.ishl, 1) := by decide +kernel
theorem dX0_withStep_5 : decode cX0_withStep 5 = .ok (.ior, 1) := by decide +kernel
theorem dX0_withStep_6 : decode cX0_withStep 6 = .ok (.bipush 6, 2) := by decide +kernel
theorem dX0_withStep_8 : decode cX0_withStep 8 = .ok (.bipush 8, 2) := by decide +kernel
theorem dX0_withStep_10 : decode cX0_withStep 10 = .ok (.iload_n 0, 1) := by decide +kernel
theorem dX0_withStep_11 : decode cX0_withStep 11 = .ok (.invokestatic 11, 3) := by decide +kernel
theorem dX0_withStep_14 : decode cX0_withStep 14 = .ok (.imul, 1) := by decide +kernel
theorem dX0_withStep_15 : decode cX0_withStep 15 = .ok (.iadd, 1) := by decide +kernel
theorem dX0_withStep_16 : decode cX0_withStep 16 = .ok (.ishl, 1) := by decide +kernel
theorem dX0_withStep_17 : decode cX0_withStep 17 = .ok (.ior, 1) := by decide +kernel
theorem dX0_withStep_18 : decode cX0_withStep 18 = .ok (.bipush 16, 2) := by decide +kernel
theorem dX0_withStep_20 : decode cX0_withStep 20 = .ok (.iadd, 1) := by decide +kernel
theorem dX0_withStep_21 : decode cX0_withStep 21 = .ok (.ireturn, 1) := by decide +kernel
theorem dX0_kindOf_0 : decode cX0_kindOf 0 = .ok (.iload_n 0, 1) := by decide +kernel
theorem dX0_kindOf_1 : decode cX0_kindOf 1 = .ok (.bipush 7, 2) := by decide +kernel
theorem dX0_kindOf_3 : decode cX0_kindOf 3 = .ok (.iand, 1) := by decide +kernel
theorem dX0_kindOf_4 : decode cX0_kindOf 4 = .ok (.ireturn, 1) := by decide +kernel
theorem dX0_isOpposite_0 : decode cX0_isOpposite 0 = .ok (.iload_n 0, 1) := by decide +kernel
theorem dX0_isOpposite_1 : decode cX0_isOpposite 1 = .ok (.bipush 8, 2) := by decide +kernel
theorem dX0_isOpposite_3 : decode cX0_isOpposite 3 = .ok (.iand, 1) := by decide +kernel
theorem dX0_isOpposite_4 : decode cX0_isOpposite 4 = .ok (.ifCond .eq 7, 3) := by decide +kernel
theorem dX0_isOpposite_7 : decode cX0_isOpposite 7 = .ok (.iconst 1, 1) := by decide +kernel
theorem dX0_isOpposite_8 : decode cX0_isOpposite 8 = .ok (.goto 4, 3) := by decide +kernel
theorem dX0_isOpposite_11 : decode cX0_isOpposite 11 = .ok (.iconst 0, 1) := by decide +kernel
theorem dX0_isOpposite_12 : decode cX0_isOpposite 12 = .ok (.ireturn, 1) := by decide +kernel
theorem dX0_isPositional_0 : decode cX0_isPositional 0 = .ok (.iload_n 0, 1) := by decide +kernel
theorem dX0_isPositional_1 : decode cX0_isPositional 1 = .ok (.bipush 7, 2) := by decide +kernel
theorem dX0_isPositional_3 : decode cX0_isPositional 3 = .ok (.iand, 1) := by decide +kernel
theorem dX0_isPositional_4 : decode cX0_isPositional 4 = .ok (.istore_n 1, 1) := by decide +kernel
theorem dX0_isPositional_5 : decode cX0_isPositional 5 = .ok (.iload_n 1, 1) := by decide +kernel
theorem dX0_isPositional_6 : decode cX0_isPositional 6 = .ok (.iconst 1, 1) := by decide +kernel
theorem dX0_isPositional_7 : decode cX0_isPositional 7 = .ok (.if_icmp .eq 8, 3) := by decide +kernel
theorem dX0_isPositional_10 : decode cX0_isPositional 10 = .ok (.iload_n 1, 1) := by decide +kernel
theorem dX0_isPositional_11 : decode cX0_isPositional 11 = .ok (.iconst 2, 1) := by decide +kernel
theorem dX0_isPositional_12 : decode cX0_isPositional 12 = .ok (.if_icmp .ne 7, 3) := by decide +kernel
theorem dX0_isPositional_15 : decode cX0_isPositional 15 = .ok (.iconst 1, 1) := by decide +kernel
theorem dX0_isPositional_16 : decode cX0_isPositional 16 = .ok (.goto 4, 3) := by decide +kernel
theorem dX0_isPositional_19 : decode cX0_isPositional 19 = .ok (.iconst 0, 1) := by decide +kernel
theorem dX0_isPositional_20 : decode cX0_isPositional 20 = .ok (.ireturn, 1) := by decide +kernel
theorem dX0_digitOf_0 : decode cX0_digitOf 0 = .ok (.iload_n 0, 1) := by decide +kernel
theorem dX0_digitOf_1 : decode cX0_digitOf 1 = .ok (.bipush 6, 2) := by decide +kernel
theorem dX0_digitOf_3 : decode cX0_digitOf 3 = .ok (.ishr, 1) := by decide +kernel
theorem dX0_digitOf_4 : decode cX0_digitOf 4 = .ok (.bipush 15, 2) := by decide +kernel
theorem dX0_digitOf_6 : decode cX0_digitOf 6 = .ok (.iand, 1) := by decide +kernel
theorem dX0_digitOf_7 : decode cX0_digitOf 7 = .ok (.ireturn, 1) := by decide +kernel
theorem dX0_stepsOf_0 : decode cX0_stepsOf 0 = .ok (.iload_n 0, 1) := by decide +kernel
theorem dX0_stepsOf_1 : decode cX0_stepsOf 1 = .ok (.iconst 4, 1) := by decide +kernel
theorem dX0_stepsOf_2 : decode cX0_stepsOf 2 = .ok (.ishr, 1) := by decide +kernel
theorem dX0_stepsOf_3 : decode cX0_stepsOf 3 = .ok (.iconst 3, 1) := by decide +kernel
theorem dX0_stepsOf_4 : decode cX0_stepsOf 4 = .ok (.iand, 1) := by decide +kernel
theorem dX0_stepsOf_5 : decode cX0_stepsOf 5 = .ok (.ireturn, 1) := by decide +kernel
theorem dX0_axisOf_0 : decode cX0_axisOf 0 = .ok (.iload_n 0, 1) := by decide +kernel
theorem dX0_axisOf_1 : decode cX0_axisOf 1 = .ok (.bipush 6, 2) := by decide +kernel
theorem dX0_axisOf_3 : decode cX0_axisOf 3 = .ok (.bipush 8, 2) := by decide +kernel
theorem dX0_axisOf_5 : decode cX0_axisOf 5 = .ok (.iload_n 1, 1) := by decide +kernel
theorem dX0_axisOf_6 : decode cX0_axisOf 6 = .ok (.imul, 1) := by decide +kernel
theorem dX0_axisOf_7 : decode cX0_axisOf 7 = .ok (.iadd, 1) := by decide +kernel
theorem dX0_axisOf_8 : decode cX0_axisOf 8 = .ok (.ishr, 1) := by decide +kernel
theorem dX0_axisOf_9 : decode cX0_axisOf 9 = .ok (.bipush 15, 2) := by decide +kernel
theorem dX0_axisOf_11 : decode cX0_axisOf 11 = .ok (.iand, 1) := by decide +kernel
theorem dX0_axisOf_12 : decode cX0_axisOf 12 = .ok (.ireturn, 1) := by decide +kernel
theorem dX0_testOf_0 : decode cX0_testOf 0 = .ok (.iload_n 0, 1) := by decide +kernel
theorem dX0_testOf_1 : decode cX0_testOf 1 = .ok (.bipush 6, 2) := by decide +kernel
theorem dX0_testOf_3 : decode cX0_testOf 3 = .ok (.bipush 8, 2) := by decide +kernel
theorem dX0_testOf_5 : decode cX0_testOf 5 = .ok (.iload_n 1, 1) := by decide +kernel
theorem dX0_testOf_6 : decode cX0_testOf 6 = .ok (.imul, 1) := by decide +kernel
theorem dX0_testOf_7 : decode cX0_testOf 7 = .ok (.iadd, 1) := by decide +kernel
theorem dX0_testOf_8 : decode cX0_testOf 8 = .ok (.iconst 4, 1) := by decide +kernel
theorem dX0_testOf_9 : decode cX0_testOf 9 = .ok (.iadd, 1) := by decide +kernel
theorem dX0_testOf_10 : decode cX0_testOf 10 = .ok (.ishr, 1) := by decide +kernel
theorem dX0_testOf_11 : decode cX0_testOf 11 = .ok (.bipush 15, 2) := by decide +kernel
theorem dX0_testOf_13 : decode cX0_testOf 13 = .ok (.iand, 1) := by decide +kernel
theorem dX0_testOf_14 : decode cX0_testOf 14 = .ok (.ireturn, 1) := by decide +kernel
theorem dX0_writeTo_0 : decode cX0_writeTo 0 = .ok (.iload_n 1, 1) := by decide +kernel
theorem dX0_writeTo_1 : decode cX0_writeTo 1 = .ok (.invokestatic 15, 3) := by decide +kernel
theorem dX0_writeTo_4 : decode cX0_writeTo 4 = .ok (.istore_n 2, 1) := by decide +kernel
theorem dX0_writeTo_5 : decode cX0_writeTo 5 = .ok (.iload_n 1, 1) := by decide +kernel
theorem dX0_writeTo_6 : decode cX0_writeTo 6 = .ok (.invokestatic 18, 3) := by decide +kernel
theorem dX0_writeTo_9 : decode cX0_writeTo 9 = .ok (.ifCond .eq 9, 3) := by decide +kernel
theorem dX0_writeTo_12 : decode cX0_writeTo 12 = .ok (.aload_n 0, 1) := by decide +kernel
theorem dX0_writeTo_13 : decode cX0_writeTo 13 = .ok (.bipush 45, 2) := by decide +kernel
theorem dX0_writeTo_15 : decode cX0_writeTo 15 = .ok (.invokevirtual 22, 3) := by decide +kernel
theorem dX0_writeTo_18 : decode cX0_writeTo 18 = .ok (.iload_n 2, 1) := by decide +kernel
theorem dX0_writeTo_19 : decode cX0_writeTo 19 = .ok (.iconst 1, 1) := by decide +kernel
theorem dX0_writeTo_20 : decode cX0_writeTo 20 = .ok (.if_icmp .eq 29, 3) := by decide +kernel
theorem dX0_writeTo_23 : decode cX0_writeTo 23 = .ok (.aload_n 0, 1) := by decide +kernel
theorem dX0_writeTo_24 : decode cX0_writeTo 24 = .ok (.iload_n 2, 1) := by decide +kernel
theorem dX0_writeTo_25 : decode cX0_writeTo 25 = .ok (.iconst 2, 1) := by decide +kernel
theorem dX0_writeTo_26 : decode cX0_writeTo 26 = .ok (.if_icmp .ne 8, 3) := by decide +kernel
theorem dX0_writeTo_29 : decode cX0_writeTo 29 = .ok (.bipush 36, 2) := by decide +kernel
theorem dX0_writeTo_31 : decode cX0_writeTo 31 = .ok (.goto 15, 3) := by decide +kernel
theorem dX0_writeTo_34 : decode cX0_writeTo 34 = .ok (.iload_n 2, 1) := by decide +kernel
theorem dX0_writeTo_35 : decode cX0_writeTo 35 = .ok (.iconst 3, 1) := by decide +kernel
theorem dX0_writeTo_36 : decode cX0_writeTo 36 = .ok (.if_icmp .ne 8, 3) := by decide +kernel
theorem dX0_writeTo_39 : decode cX0_writeTo 39 = .ok (.bipush 61, 2) := by decide +kernel
theorem dX0_writeTo_41 : decode cX0_writeTo 41 = .ok (.goto 5, 3) := by decide +kernel
theorem dX0_writeTo_44 : decode cX0_writeTo 44 = .ok (.bipush 63, 2) := by decide +kernel
theorem dX0_writeTo_46 : decode cX0_writeTo 46 = .ok (.invokevirtual 22, 3) := by decide +kernel
theorem dX0_writeTo_49 : decode cX0_writeTo 49 = .ok (.iload_n 2, 1) := by decide +kernel
theorem dX0_writeTo_50 : decode cX0_writeTo 50 = .ok (.iconst 1, 1) := by decide +kernel
theorem dX0_writeTo_51 : decode cX0_writeTo 51 = .ok (.if_icmp .eq 8, 3) := by decide +kernel
theorem dX0_writeTo_54 : decode cX0_writeTo 54 = .ok (.iload_n 2, 1) := by decide +kernel
theorem dX0_writeTo_55 : decode cX0_writeTo 55 = .ok (.iconst 3, 1) := by decide +kernel
theorem dX0_writeTo_56 : decode cX0_writeTo 56 = .ok (.if_icmp .ne 14, 3) := by decide +kernel
theorem dX0_writeTo_59 : decode cX0_writeTo 59 = .ok (.aload_n 0, 1) := by decide +kernel
theorem dX0_writeTo_60 : decode cX0_writeTo 60 = .ok (.bipush 48, 2) := by decide +kernel
theorem dX0_writeTo_62 : decode cX0_writeTo 62 = .ok (.iload_n 1, 1) := by decide +kernel
theorem dX0_writeTo_63 : decode cX0_writeTo 63 = .ok (.invokestatic 28, 3) := by decide +kernel
theorem dX0_writeTo_66 : decode cX0_writeTo 66 = .ok (.iadd, 1) := by decide +kernel
theorem dX0_writeTo_67 : decode cX0_writeTo 67 = .ok (.invokevirtual 22, 3) := by decide +kernel
theorem dX0_writeTo_70 : decode cX0_writeTo 70 = .ok (.iconst 0, 1) := by decide +kernel
theorem dX0_writeTo_71 : decode cX0_writeTo 71 = .ok (.istore_n 3, 1) := by decide +kernel
theorem dX0_writeTo_72 : decode cX0_writeTo 72 = .ok (.iload_n 3, 1) := by decide +kernel
theorem dX0_writeTo_73 : decode cX0_writeTo 73 = .ok (.iload_n 1, 1) := by decide +kernel
theorem dX0_writeTo_74 : decode cX0_writeTo 74 = .ok (.invokestatic 11, 3) := by decide +kernel
theorem dX0_writeTo_77 : decode cX0_writeTo 77 = .ok (.if_icmp .ge 33, 3) := by decide +kernel
theorem dX0_writeTo_80 : decode cX0_writeTo 80 = .ok (.iload_n 3, 1) := by decide +kernel
theorem dX0_writeTo_81 : decode cX0_writeTo 81 = .ok (.ifCond .le 9, 3) := by decide +kernel
theorem dX0_writeTo_84 : decode cX0_writeTo 84 = .ok (.aload_n 0, 1) := by decide +kernel
theorem dX0_writeTo_85 : decode cX0_writeTo 85 = .ok (.bipush 47, 2) := by decide +kernel
theorem dX0_writeTo_87 : decode cX0_writeTo 87 = .ok (.invokevirtual 22, 3) := by decide +kernel
theorem dX0_writeTo_90 : decode cX0_writeTo 90 = .ok (.aload_n 0, 1) := by decide +kernel
theorem dX0_writeTo_91 : decode cX0_writeTo 91 = .ok (.iload_n 1, 1) := by decide +kernel
theorem dX0_writeTo_92 : decode cX0_writeTo 92 = .ok (.iload_n 3, 1) := by decide +kernel
theorem dX0_writeTo_93 : decode cX0_writeTo 93 = .ok (.invokestatic 31, 3) := by decide +kernel
theorem dX0_writeTo_96 : decode cX0_writeTo 96 = .ok (.iload_n 1, 1) := by decide +kernel
theorem dX0_writeTo_97 : decode cX0_writeTo 97 = .ok (.iload_n 3, 1) := by decide +kernel
theorem dX0_writeTo_98 : decode cX0_writeTo 98 = .ok (.invokestatic 35, 3) := by decide +kernel
theorem dX0_writeTo_101 : decode cX0_writeTo 101 = .ok (.invokevirtual 38, 3) := by decide +kernel
theorem dX0_writeTo_104 : decode cX0_writeTo 104 = .ok (.iinc 3 1, 3) := by decide +kernel
theorem dX0_writeTo_107 : decode cX0_writeTo 107 = .ok (.goto (-35), 3) := by decide +kernel
theorem dX0_writeTo_110 : decode cX0_writeTo 110 = .ok (.return_, 1) := by decide +kernel
theorem dX1_init_0 : decode cX1_init 0 = .ok (.aload_n 0, 1) := by decide +kernel
theorem dX1_init_1 : decode cX1_init 1 = .ok (.invokespecial 3, 3) := by decide +kernel
theorem dX1_init_4 : decode cX1_init 4 = .ok (.aload_n 0, 1) := by decide +kernel
theorem dX1_init_5 : decode cX1_init 5 = .ok (.sipush 1280, 3) := by decide +kernel
theorem dX1_init_8 : decode cX1_init 8 = .ok (.newarray .long, 2) := by decide +kernel
theorem dX1_init_10 : decode cX1_init 10 = .ok (.putfield 9, 3) := by decide +kernel
theorem dX1_init_13 : decode cX1_init 13 = .ok (.aload_n 0, 1) := by decide +kernel
theorem dX1_init_14 : decode cX1_init 14 = .ok (.bipush 27, 2) := by decide +kernel
theorem dX1_init_16 : decode cX1_init 16 = .ok (.newarray .long, 2) := by decide +kernel
theorem dX1_init_18 : decode cX1_init 18 = .ok (.putfield 15, 3) := by decide +kernel
theorem dX1_init_21 : decode cX1_init 21 = .ok (.return_, 1) := by decide +kernel
theorem dX1_prepare_0 : decode cX1_prepare 0 = .ok (.iconst 0, 1) := by decide +kernel
theorem dX1_prepare_1 : decode cX1_prepare 1 = .ok (.istore_n 3, 1) := by decide +kernel
theorem dX1_prepare_2 : decode cX1_prepare 2 = .ok (.iload_n 3, 1) := by decide +kernel
theorem dX1_prepare_3 : decode cX1_prepare 3 = .ok (.aload_n 2, 1) := by decide +kernel
theorem dX1_prepare_4 : decode cX1_prepare 4 = .ok (.getfield 18, 3) := by decide +kernel
theorem dX1_prepare_7 : decode cX1_prepare 7 = .ok (.if_icmp .ge 55, 3) := by decide +kernel
theorem dX1_prepare_10 : decode cX1_prepare 10 = .ok (.iconst 0, 1) := by decide +kernel
theorem dX1_prepare_11 : decode cX1_prepare 11 = .ok (.istore 4, 2) := by decide +kernel
theorem dX1_prepare_13 : decode cX1_prepare 13 = .ok (.iload 4, 2) := by decide +kernel
theorem dX1_prepare_15 : decode cX1_prepare 15 = .ok (.aload_n 2, 1) := by decide +kernel
theorem dX1_prepare_16 : decode cX1_prepare 16 = .ok (.getfield 24, 3) := by decide +kernel
theorem dX1_prepare_19 : decode cX1_prepare 19 = .ok (.iload_n 3, 1) := by decide +kernel
theorem dX1_prepare_20 : decode cX1_prepare 20 = .ok (.aaload, 1) := by decide +kernel
theorem dX1_prepare_21 : decode cX1_prepare 21 = .ok (.getfield 28, 3) := by decide +kernel
theorem dX1_prepare_24 : decode cX1_prepare 24 = .ok (.if_icmp .ge 32, 3) := by decide +kernel
theorem dX1_prepare_27 : decode cX1_prepare 27 = .ok (.aload_n 0, 1) := by decide +kernel
theorem dX1_prepare_28 : decode cX1_prepare 28 = .ok (.aload_n 1, 1) := by decide +kernel
theorem dX1_prepare_29 : decode cX1_prepare 29 = .ok (.aload_n 2, 1) := by decide +kernel
theorem dX1_prepare_30 : decode cX1_prepare 30 = .ok (.getfield 24, 3) := by decide +kernel
theorem dX1_prepare_33 : decode cX1_prepare 33 = .ok (.iload_n 3, 1) := by decide +kernel
theorem dX1_prepare_34 : decode cX1_prepare 34 = .ok (.aaload, 1) := by decide +kernel
theorem dX1_prepare_35 : decode cX1_prepare 35 = .ok (.getfield 31, 3) := by decide +kernel
theorem dX1_prepare_38 : decode cX1_prepare 38 = .ok (.iload 4, 2) := by decide +kernel
theorem dX1_prepare_40 : decode cX1_prepare 40 = .ok (.aaload, 1) := by decide +kernel
theorem dX1_prepare_41 : decode cX1_prepare 41 = .ok (.iload_n 3, 1) := by decide +kernel
theorem dX1_prepare_42 : decode cX1_prepare 42 = .ok (.iload 4, 2) := by decide +kernel
theorem dX1_prepare_44 : decode cX1_prepare 44 = .ok (.invokestatic 35, 3) := by decide +kernel
theorem dX1_prepare_47 : decode cX1_prepare 47 = .ok (.invokevirtual 39, 3) := by decide +kernel
theorem dX1_prepare_50 : decode cX1_prepare 50 = .ok (.iinc 4 1, 3) := by decide +kernel
theorem dX1_prepare_53 : decode cX1_prepare 53 = .ok (.goto (-40), 3) := by decide +kernel
theorem dX1_prepare_56 : decode cX1_prepare 56 = .ok (.iinc 3 1, 3) := by decide +kernel
theorem dX1_prepare_59 : decode cX1_prepare 59 = .ok (.goto (-57), 3) := by decide +kernel
theorem dX1_prepare_62 : decode cX1_prepare 62 = .ok (.return_, 1) := by decide +kernel
theorem dX1_givenBy_0 : decode cX1_givenBy 0 = .ok (.aload_n 0, 1) := by decide +kernel
theorem dX1_givenBy_1 : decode cX1_givenBy 1 = .ok (.iload_n 1, 1) := by decide +kernel
theorem dX1_givenBy_2 : decode cX1_givenBy 2 = .ok (.iload_n 2, 1) := by decide +kernel
theorem dX1_givenBy_3 : decode cX1_givenBy 3 = .ok (.invokestatic 35, 3) := by decide +kernel
theorem dX1_givenBy_6 : decode cX1_givenBy 6 = .ok (.iload_n 3, 1) := by decide +kernel
theorem dX1_givenBy_7 : decode cX1_givenBy 7 = .ok (.iadd, 1) := by decide +kernel
theorem dX1_givenBy_8 : decode cX1_givenBy 8 = .ok (.invokevirtual 43, 3) := by decide +kernel
theorem dX1_givenBy_11 : decode cX1_givenBy 11 = .ok (.lreturn, 1) := by decide +kernel
theorem dX1_selectFrom_0 : decode cX1_selectFrom 0 = .ok (.lconst 0, 1) := by decide +kernel
theorem dX1_selectFrom_1 : decode cX1_selectFrom 1 = .ok (.lstore_n 3, 1) := by decide +kernel
theorem dX1_selectFrom_2 : decode cX1_selectFrom 2 = .ok (.iconst 0, 1) := by decide +kernel
theorem dX1_selectFrom_3 : decode cX1_selectFrom 3 = .ok (.istore 5, 2) := by decide +kernel
theorem dX1_selectFrom_5 : decode cX1_selectFrom 5 = .ok (.iload 5, 2) := by decide +kernel
theorem dX1_selectFrom_7 : decode cX1_selectFrom 7 = .ok (.aload_n 1, 1) := by decide +kernel
theorem dX1_selectFrom_8 : decode cX1_selectFrom 8 = .ok (.getfield 18, 3) := by decide +kernel
theorem dX1_selectFrom_11 : decode cX1_selectFrom 11 = .ok (.if_icmp .ge 75, 3) := by decide +kernel
theorem dX1_selectFrom_14 : decode cX1_selectFrom 14 = .ok (.aload_n 1, 1) := by decide +kernel
theorem dX1_selectFrom_15 : decode cX1_selectFrom 15 = .ok (.getfield 24, 3) := by decide +kernel
theorem dX1_selectFrom_18 : decode cX1_selectFrom 18 = .ok (.iload 5, 2) := by decide +kernel
theorem dX1_selectFrom_20 : decode cX1_selectFrom 20 = .ok (.aaload, 1) := by decide +kernel
theorem dX1_selectFrom_21 : decode cX1_selectFrom 21 = .ok (.getfield 47, 3) := by decide +kernel
theorem dX1_selectFrom_24 : decode cX1_selectFrom 24 = .ok (.ifCond .eq 7, 3) := by decide +kernel
theorem dX1_selectFrom_27 : decode cX1_selectFrom 27 = .ok (.lconst 1, 1) := by decide +kernel
theorem dX1_selectFrom_28 : decode cX1_selectFrom 28 = .ok (.goto 6, 3) := by decide +kernel
theorem dX1_selectFrom_31 : decode cX1_selectFrom 31 = .ok (.lconst 1, 1) := by decide +kernel
theorem dX1_selectFrom_32 : decode cX1_selectFrom 32 = .ok (.iload_n 2, 1) := by decide +kernel
theorem dX1_selectFrom_33 : decode cX1_selectFrom 33 = .ok (.lshl, 1) := by decide +kernel
theorem dX1_selectFrom_34 : decode cX1_selectFrom 34 = .ok (.lstore 6, 2) := by decide +kernel
theorem dX1_selectFrom_36 : decode cX1_selectFrom 36 = .ok (.iconst 0, 1) := by decide +kernel
theorem dX1_selectFrom_37 : decode cX1_selectFrom 37 = .ok (.istore 8, 2) := by decide +kernel
theorem dX1_selectFrom_39 : decode cX1_selectFrom 39 = .ok (.iload 8, 2) := by decide +kernel
theorem dX1_selectFrom_41 : decode cX1_selectFrom 41 = .ok (.aload_n 1, 1) := by decide +kernel
theorem dX1_selectFrom_42 : decode cX1_selectFrom 42 = .ok (.getfield 24, 3) := by decide +kernel
theorem dX1_selectFrom_45 : decode cX1_selectFrom 45 = .ok (.iload 5, 2) := by decide +kernel
theorem dX1_selectFrom_47 : decode cX1_selectFrom 47 = .ok (.aaload, 1) := by decide +kernel
theorem dX1_selectFrom_48 : decode cX1_selectFrom 48 = .ok (.getfield 28, 3) := by decide +kernel
theorem dX1_selectFrom_51 : decode cX1_selectFrom 51 = .ok (.if_icmp .ge 24, 3) := by decide +kernel
theorem dX1_selectFrom_54 : decode cX1_selectFrom 54 = .ok (.aload_n 0, 1) := by decide +kernel
theorem dX1_selectFrom_55 : decode cX1_selectFrom 55 = .ok (.lload 6, 2) := by decide +kernel
theorem dX1_selectFrom_57 : decode cX1_selectFrom 57 = .ok (.iload 5, 2) := by decide +kernel
theorem dX1_selectFrom_59 : decode cX1_selectFrom 59 = .ok (.iload 8, 2) := by decide +kernel
theorem dX1_selectFrom_61 : decode cX1_selectFrom 61 = .ok (.invokestatic 35, 3) := by decide +kernel
theorem dX1_selectFrom_64 : decode cX1_selectFrom 64 = .ok (.invokevirtual 51, 3) := by decide +kernel
theorem dX1_selectFrom_67 : decode cX1_selectFrom 67 = .ok (.lstore 6, 2) := by decide +kernel
theorem dX1_selectFrom_69 : decode cX1_selectFrom 69 = .ok (.iinc 8 1, 3) := by decide +kernel
theorem dX1_selectFrom_72 : decode cX1_selectFrom 72 = .ok (.goto (-33), 3) := by decide +kernel
theorem dX1_selectFrom_75 : decode cX1_selectFrom 75 = .ok (.lload_n 3, 1) := by decide +kernel
theorem dX1_selectFrom_76 : decode cX1_selectFrom 76 = .ok (.lload 6, 2) := by decide +kernel
theorem dX1_selectFrom_78 : decode cX1_selectFrom 78 = .ok (.lor, 1) := by decide +kernel
theorem dX1_selectFrom_79 : decode cX1_selectFrom 79 = .ok (.lstore_n 3, 1) := by decide +kernel
theorem dX1_selectFrom_80 : decode cX1_selectFrom 80 = .ok (.iinc 5 1, 3) := by decide +kernel
theorem dX1_selectFrom_83 : decode cX1_selectFrom 83 = .ok (.goto (-78), 3) := by decide +kernel
theorem dX1_selectFrom_86 : decode cX1_selectFrom 86 = .ok (.lload_n 3, 1) := by decide +kernel
theorem dX1_selectFrom_87 : decode cX1_selectFrom 87 = .ok (.lreturn, 1) := by decide +kernel
theorem dX1_rowOf_0 : decode cX1_rowOf 0 = .ok (.iload_n 0, 1) := by decide +kernel
theorem dX1_rowOf_1 : decode cX1_rowOf 1 = .ok (.bipush 8, 2) := by decide +kernel
theorem dX1_rowOf_3 : decode cX1_rowOf 3 = .ok (.imul, 1) := by decide +kernel
theorem dX1_rowOf_4 : decode cX1_rowOf 4 = .ok (.iload_n 1, 1) := by decide +kernel
theorem dX1_rowOf_5 : decode cX1_rowOf 5 = .ok (.iadd, 1) := by decide +kernel
theorem dX1_rowOf_6 : decode cX1_rowOf 6 = .ok (.bipush 40, 2) := by decide +kernel
theorem dX1_rowOf_8 : decode cX1_rowOf 8 = .ok (.imul, 1) := by decide +kernel
theorem dX1_rowOf_9 : decode cX1_rowOf 9 = .ok (.ireturn, 1) := by decide +kernel
theorem dX1_giftAt_0 : decode cX1_giftAt 0 = .ok (.iload_n 1, 1) := by decide +kernel
theorem dX1_giftAt_1 : decode cX1_giftAt 1 = .ok (.ifCond .lt 21, 3) := by decide +kernel
theorem dX1_giftAt_4 : decode cX1_giftAt 4 = .ok (.iload_n 1, 1) := by decide +kernel
theorem dX1_giftAt_5 : decode cX1_giftAt 5 = .ok (.aload_n 0, 1) := by decide +kernel
theorem dX1_giftAt_6 : decode cX1_giftAt 6 = .ok (.getfield 9, 3) := by decide +kernel
theorem dX1_giftAt_9 : decode cX1_giftAt 9 = .ok (.arraylength, 1) := by decide +kernel
theorem dX1_giftAt_10 : decode cX1_giftAt 10 = .ok (.if_icmp .ge 12, 3) := by decide +kernel
theorem dX1_giftAt_13 : decode cX1_giftAt 13 = .ok (.aload_n 0, 1) := by decide +kernel
theorem dX1_giftAt_14 : decode cX1_giftAt 14 = .ok (.getfield 9, 3) := by decide +kernel
theorem dX1_giftAt_17 : decode cX1_giftAt 17 = .ok (.iload_n 1, 1) := by decide +kernel
theorem dX1_giftAt_18 : decode cX1_giftAt 18 = .ok (.laload, 1) := by decide +kernel
theorem dX1_giftAt_19 : decode cX1_giftAt 19 = .ok (.goto 4, 3) := by decide +kernel
theorem dX1_giftAt_22 : decode cX1_giftAt 22 = .ok (.lconst 0, 1) := by decide +kernel
theorem dX1_giftAt_23 : decode cX1_giftAt 23 = .ok (.lreturn, 1) := by decide +kernel
theorem dX1_follow_0 : decode cX1_follow 0 = .ok (.lconst 0, 1) := by decide +kernel
theorem dX1_follow_1 : decode cX1_follow 1 = .ok (.lstore 4, 2) := by decide +kernel
theorem dX1_follow_3 : decode cX1_follow 3 = .ok (.lload_n 1, 1) := by decide +kernel
theorem dX1_follow_4 : decode cX1_follow 4 = .ok (.lstore 6, 2) := by decide +kernel
theorem dX1_follow_6 : decode cX1_follow 6 = .ok (.lload_n 1, 1) := by decide +kernel
theorem dX1_follow_7 : decode cX1_follow 7 = .ok (.invokestatic 55, 3) := by decide +kernel
theorem dX1_follow_10 : decode cX1_follow 10 = .ok (.istore 8, 2) := by decide +kernel
theorem dX1_follow_12 : decode cX1_follow 12 = .ok (.iload 8, 2) := by decide +kernel
theorem dX1_follow_14 : decode cX1_follow 14 = .ok (.ifCond .le 34, 3) := by decide +kernel
theorem dX1_follow_17 : decode cX1_follow 17 = .ok (.lload 4, 2) := by decide +kernel
theorem dX1_follow_19 : decode cX1_follow 19 = .ok (.aload_n 0, 1) := by decide +kernel
theorem dX1_follow_20 : decode cX1_follow 20 = .ok (.iload_n 3, 1) := by decide +kernel
theorem dX1_follow_21 : decode cX1_follow 21 = .ok (.lload 6, 2) := by decide +kernel
theorem dX1_follow_23 : decode cX1_follow 23 = .ok (.invokestatic 61, 3) := by decide +kernel
theorem dX1_follow_26 : decode cX1_follow 26 = .ok (.iadd, 1) := by decide +kernel
theorem dX1_follow_27 : decode cX1_follow 27 = .ok (.invokevirtual 43, 3) := by decide +kernel
theorem dX1_follow_30 : decode cX1_follow 30 = .ok (.lor, 1) := by decide +kernel
theorem dX1_follow_31 : decode cX1_follow 31 = .ok (.lstore 4, 2) := by decide +kernel
theorem dX1_follow_33 : decode cX1_follow 33 = .ok (.lload 6, 2) := by decide +kernel
theorem dX1_follow_35 : decode cX1_follow 35 = .ok (.lload 6, 2) := by decide +kernel
theorem dX1_follow_37 : decode cX1_follow 37 = .ok (.lconst 1, 1) := by decide +kernel
theorem dX1_follow_38 : decode cX1_follow 38 = .ok (.lsub, 1) := by decide +kernel
theorem dX1_follow_39 : decode cX1_follow 39 = .ok (.land, 1) := by decide +kernel
theorem dX1_follow_40 : decode cX1_follow 40 = .ok (.lstore 6, 2) := by decide +kernel
theorem dX1_follow_42 : decode cX1_follow 42 = .ok (.iinc 8 (-1), 3) := by decide +kernel
theorem dX1_follow_45 : decode cX1_follow 45 = .ok (.goto (-33), 3) := by decide +kernel
theorem dX1_follow_48 : decode cX1_follow 48 = .ok (.lload 4, 2) := by decide +kernel
theorem dX1_follow_50 : decode cX1_follow 50 = .ok (.lreturn, 1) := by decide +kernel
theorem dX1_prepareStep_0 : decode cX1_prepareStep 0 = .ok (.iconst 0, 1) := by decide +kernel
theorem dX1_prepareStep_1 : decode cX1_prepareStep 1 = .ok (.istore 4, 2) := by decide +kernel
theorem dX1_prepareStep_3 : decode cX1_prepareStep 3 = .ok (.iload 4, 2) := by decide +kernel
theorem dX1_prepareStep_5 : decode cX1_prepareStep 5 = .ok (.aload_n 2, 1) := by decide +kernel
theorem dX1_prepareStep_6 : decode cX1_prepareStep 6 = .ok (.getfield 66, 3) := by decide +kernel
theorem dX1_prepareStep_9 : decode cX1_prepareStep 9 = .ok (.bipush 9, 2) := by decide +kernel
theorem dX1_prepareStep_11 : decode cX1_prepareStep 11 = .ok (.imul, 1) := by decide +kernel
theorem dX1_prepareStep_12 : decode cX1_prepareStep 12 = .ok (.if_icmp .ge 34, 3) := by decide +kernel
theorem dX1_prepareStep_15 : decode cX1_prepareStep 15 = .ok (.iload 4, 2) := by decide +kernel
theorem dX1_prepareStep_17 : decode cX1_prepareStep 17 = .ok (.bipush 27, 2) := by decide +kernel
theorem dX1_prepareStep_19 : decode cX1_prepareStep 19 = .ok (.if_icmp .ge 27, 3) := by decide +kernel
theorem dX1_prepareStep_22 : decode cX1_prepareStep 22 = .ok (.aload_n 0, 1) := by decide +kernel
theorem dX1_prepareStep_23 : decode cX1_prepareStep 23 = .ok (.getfield 15, 3) := by decide +kernel
theorem dX1_prepareStep_26 : decode cX1_prepareStep 26 = .ok (.iload 4, 2) := by decide +kernel
theorem dX1_prepareStep_28 : decode cX1_prepareStep 28 = .ok (.aload_n 1, 1) := by decide +kernel
theorem dX1_prepareStep_29 : decode cX1_prepareStep 29 = .ok (.aload_n 2, 1) := by decide +kernel
theorem dX1_prepareStep_30 : decode cX1_prepareStep 30 = .ok (.getfield 71, 3) := by decide +kernel
theorem dX1_prepareStep_33 : decode cX1_prepareStep 33 = .ok (.iload 4, 2) := by decide +kernel
theorem dX1_prepareStep_35 : decode cX1_prepareStep 35 = .ok (.iaload, 1) := by decide +kernel
theorem dX1_prepareStep_36 : decode cX1_prepareStep 36 = .ok (.invokestatic 75, 3) := by decide +kernel
theorem dX1_prepareStep_39 : decode cX1_prepareStep 39 = .ok (.lastore, 1) := by decide +kernel
theorem dX1_prepareStep_40 : decode cX1_prepareStep 40 = .ok (.iinc 4 1, 3) := by decide +kernel
theorem dX1_prepareStep_43 : decode cX1_prepareStep 43 = .ok (.goto (-40), 3) := by decide +kernel
theorem dX1_prepareStep_46 : decode cX1_prepareStep 46 = .ok (.aload_n 1, 1) := by decide +kernel
theorem dX1_prepareStep_47 : decode cX1_prepareStep 47 = .ok (.aload_n 2, 1) := by decide +kernel
theorem dX1_prepareStep_48 : decode cX1_prepareStep 48 = .ok (.getfield 79, 3) := by decide +kernel
theorem dX1_prepareStep_51 : decode cX1_prepareStep 51 = .ok (.invokevirtual 82, 3) := by decide +kernel
theorem dX1_prepareStep_54 : decode cX1_prepareStep 54 = .ok (.lstore 4, 2) := by decide +kernel
theorem dX1_prepareStep_56 : decode cX1_prepareStep 56 = .ok (.iconst 0, 1) := by decide +kernel
theorem dX1_prepareStep_57 : decode cX1_prepareStep 57 = .ok (.istore 6, 2) := by decide +kernel
theorem dX1_prepareStep_59 : decode cX1_prepareStep 59 = .ok (.iload 6, 2) := by decide +kernel
theorem dX1_prepareStep_61 : decode cX1_prepareStep 61 = .ok (.aload_n 1, 1) := by decide +kernel
theorem dX1_prepareStep_62 : decode cX1_prepareStep 62 = .ok (.getfield 85, 3) := by decide +kernel
theorem dX1_prepareStep_65 : decode cX1_prepareStep 65 = .ok (.if_icmp .ge 76, 3) := by decide +kernel
theorem dX1_prepareStep_68 : decode cX1_prepareStep 68 = .ok (.iload_n 3, 1) := by decide +kernel
theorem dX1_prepareStep_69 : decode cX1_prepareStep 69 = .ok (.iload 6, 2) := by decide +kernel
theorem dX1_prepareStep_71 : decode cX1_prepareStep 71 = .ok (.iadd, 1) := by decide +kernel
theorem dX1_prepareStep_72 : decode cX1_prepareStep 72 = .ok (.aload_n 0, 1) := by decide +kernel
theorem dX1_prepareStep_73 : decode cX1_prepareStep 73 = .ok (.getfield 9, 3) := by decide +kernel
theorem dX1_prepareStep_76 : decode cX1_prepareStep 76 = .ok (.arraylength, 1) := by decide +kernel
theorem dX1_prepareStep_77 : decode cX1_prepareStep 77 = .ok (.if_icmp .ge 64, 3) := by decide +kernel
theorem dX1_prepareStep_80 : decode cX1_prepareStep 80 = .ok (.aload_n 1, 1) := by decide +kernel
theorem dX1_prepareStep_81 : decode cX1_prepareStep 81 = .ok (.aload_n 2, 1) := by decide +kernel
theorem dX1_prepareStep_82 : decode cX1_prepareStep 82 = .ok (.getfield 86, 3) := by decide +kernel
theorem dX1_prepareStep_85 : decode cX1_prepareStep 85 = .ok (.iload 6, 2) := by decide +kernel
theorem dX1_prepareStep_87 : decode cX1_prepareStep 87 = .ok (.invokevirtual 89, 3) := by decide +kernel
theorem dX1_prepareStep_90 : decode cX1_prepareStep 90 = .ok (.lload 4, 2) := by decide +kernel
theorem dX1_prepareStep_92 : decode cX1_prepareStep 92 = .ok (.land, 1) := by decide +kernel
theorem dX1_prepareStep_93 : decode cX1_prepareStep 93 = .ok (.lstore 7, 2) := by decide +kernel
theorem dX1_prepareStep_95 : decode cX1_prepareStep 95 = .ok (.iconst 0, 1) := by decide +kernel
theorem dX1_prepareStep_96 : decode cX1_prepareStep 96 = .ok (.istore 9, 2) := by decide +kernel
theorem dX1_prepareStep_98 : decode cX1_prepareStep 98 = .ok (.iload 9, 2) := by decide +kernel
theorem dX1_prepareStep_100 : decode cX1_prepareStep 100 = .ok (.aload_n 2, 1) := by decide +kernel
theorem dX1_prepareStep_101 : decode cX1_prepareStep 101 = .ok (.getfield 66, 3) := by decide +kernel
theorem dX1_prepareStep_104 : decode cX1_prepareStep 104 = .ok (.if_icmp .ge 20, 3) := by decide +kernel
theorem dX1_prepareStep_107 : decode cX1_prepareStep 107 = .ok (.aload_n 0, 1) := by decide +kernel
theorem dX1_prepareStep_108 : decode cX1_prepareStep 108 = .ok (.aload_n 2, 1) := by decide +kernel
theorem dX1_prepareStep_109 : decode cX1_prepareStep 109 = .ok (.iload 9, 2) := by decide +kernel
theorem dX1_prepareStep_111 : decode cX1_prepareStep 111 = .ok (.lload 7, 2) := by decide +kernel
theorem dX1_prepareStep_113 : decode cX1_prepareStep 113 = .ok (.invokevirtual 93, 3) := by decide +kernel
theorem dX1_prepareStep_116 : decode cX1_prepareStep 116 = .ok (.lstore 7, 2) := by decide +kernel
theorem dX1_prepareStep_118 : decode cX1_prepareStep 118 = .ok (.iinc 9 1, 3) := by decide +kernel
theorem dX1_prepareStep_121 : decode cX1_prepareStep 121 = .ok (.goto (-23), 3) := by decide +kernel
theorem dX1_prepareStep_124 : decode cX1_prepareStep 124 = .ok (.aload_n 0, 1) := by decide +kernel
theorem dX1_prepareStep_125 : decode cX1_prepareStep 125 = .ok (.getfield 9, 3) := by decide +kernel
theorem dX1_prepareStep_128 : decode cX1_prepareStep 128 = .ok (.iload_n 3, 1) := by decide +kernel
theorem dX1_prepareStep_129 : decode cX1_prepareStep 129 = .ok (.iload 6, 2) := by decide +kernel
theorem dX1_prepareStep_131 : decode cX1_prepareStep 131 = .ok (.iadd, 1) := by decide +kernel
theorem dX1_prepareStep_132 : decode cX1_prepareStep 132 = .ok (.lload 7, 2) := by decide +kernel
theorem dX1_prepareStep_134 : decode cX1_prepareStep 134 = .ok (.lastore, 1) := by decide +kernel
theorem dX1_prepareStep_135 : decode cX1_prepareStep 135 = .ok (.iinc 6 1, 3) := by decide +kernel
theorem dX1_prepareStep_138 : decode cX1_prepareStep 138 = .ok (.goto (-79), 3) := by decide +kernel
theorem dX1_prepareStep_141 : decode cX1_prepareStep 141 = .ok (.return_, 1) := by decide +kernel
theorem dX1_nodesFor_0 : decode cX1_nodesFor 0 = .ok (.iload_n 1, 1) := by decide +kernel
theorem dX1_nodesFor_1 : decode cX1_nodesFor 1 = .ok (.invokestatic 97, 3) := by decide +kernel
theorem dX1_nodesFor_4 : decode cX1_nodesFor 4 = .ok (.istore_n 2, 1) := by decide +kernel
theorem dX1_nodesFor_5 : decode cX1_nodesFor 5 = .ok (.iload_n 2, 1) := by decide +kernel
theorem dX1_nodesFor_6 : decode cX1_nodesFor 6 = .ok (.iconst 3, 1) := by decide +kernel
theorem dX1_nodesFor_7 : decode cX1_nodesFor 7 = .ok (.if_icmp .ne 12, 3) := by decide +kernel
theorem dX1_nodesFor_10 : decode cX1_nodesFor 10 = .ok (.aload_n 0, 1) := by decide +kernel
theorem dX1_nodesFor_11 : decode cX1_nodesFor 11 = .ok (.iload_n 1, 1) := by decide +kernel
theorem dX1_nodesFor_12 : decode cX1_nodesFor 12 = .ok (.invokestatic 103, 3) := by decide +kernel
theorem dX1_nodesFor_15 : decode cX1_nodesFor 15 = .ok (.invokevirtual 106, 3) := by decide +kernel
theorem dX1_nodesFor_18 : decode cX1_nodesFor 18 = .ok (.lreturn, 1) := by decide +kernel
theorem dX1_nodesFor_19 : decode cX1_nodesFor 19 = .ok (.iload_n 2, 1) := by decide +kernel
theorem dX1_nodesFor_20 : decode cX1_nodesFor 20 = .ok (.iconst 4, 1) := by decide +kernel
theorem dX1_nodesFor_21 : decode cX1_nodesFor 21 = .ok (.if_icmp .eq 5, 3) := by decide +kernel
theorem dX1_nodesFor_24 : decode cX1_nodesFor 24 = .ok (.lconst 0, 1) := by decide +kernel
theorem dX1_nodesFor_25 : decode cX1_nodesFor 25 = .ok (.lreturn, 1) := by decide +kernel
theorem dX1_nodesFor_26 : decode cX1_nodesFor 26 = .ok (.aload_n 0, 1) := by decide +kernel
theorem dX1_nodesFor_27 : decode cX1_nodesFor 27 = .ok (.bipush 8, 2) := by decide +kernel
theorem dX1_nodesFor_29 : decode cX1_nodesFor 29 = .ok (.invokevirtual 82, 3) := by decide +kernel
theorem dX1_nodesFor_32 : decode cX1_nodesFor 32 = .ok (.lstore_n 3, 1) := by decide +kernel
theorem dX1_nodesFor_33 : decode cX1_nodesFor 33 = .ok (.iload_n 1, 1) := by decide +kernel
theorem dX1_nodesFor_34 : decode cX1_nodesFor 34 = .ok (.invokestatic 109, 3) := by decide +kernel
theorem dX1_nodesFor_37 : decode cX1_nodesFor 37 = .ok (.iconst 1, 1) := by decide +kernel
theorem dX1_nodesFor_38 : decode cX1_nodesFor 38 = .ok (.isub, 1) := by decide +kernel
theorem dX1_nodesFor_39 : decode cX1_nodesFor 39 = .ok (.istore 5, 2) := by decide +kernel
theorem dX1_nodesFor_41 : decode cX1_nodesFor 41 = .ok (.iload 5, 2) := by decide +kernel
theorem dX1_nodesFor_43 : decode cX1_nodesFor 43 = .ok (.ifCond .lt 36, 3) := by decide +kernel
theorem dX1_nodesFor_46 : decode cX1_nodesFor 46 = .ok (.lload_n 3, 1) := by decide +kernel
theorem dX1_nodesFor_47 : decode cX1_nodesFor 47 = .ok (.aload_n 0, 1) := by decide +kernel
theorem dX1_nodesFor_48 : decode cX1_nodesFor 48 = .ok (.iload_n 1, 1) := by decide +kernel
theorem dX1_nodesFor_49 : decode cX1_nodesFor 49 = .ok (.iload 5, 2) := by decide +kernel
theorem dX1_nodesFor_51 : decode cX1_nodesFor 51 = .ok (.invokestatic 112, 3) := by decide +kernel
theorem dX1_nodesFor_54 : decode cX1_nodesFor 54 = .ok (.invokevirtual 82, 3) := by decide +kernel
theorem dX1_nodesFor_57 : decode cX1_nodesFor 57 = .ok (.land, 1) := by decide +kernel
theorem dX1_nodesFor_58 : decode cX1_nodesFor 58 = .ok (.lstore 6, 2) := by decide +kernel
theorem dX1_nodesFor_60 : decode cX1_nodesFor 60 = .ok (.aload_n 0, 1) := by decide +kernel
theorem dX1_nodesFor_61 : decode cX1_nodesFor 61 = .ok (.lload 6, 2) := by decide +kernel
theorem dX1_nodesFor_63 : decode cX1_nodesFor 63 = .ok (.iload_n 1, 1) := by decide +kernel
theorem dX1_nodesFor_64 : decode cX1_nodesFor 64 = .ok (.iload 5, 2) := by decide +kernel
theorem dX1_nodesFor_66 : decode cX1_nodesFor 66 = .ok (.invokestatic 115, 3) := by decide +kernel
theorem dX1_nodesFor_69 : decode cX1_nodesFor 69 = .ok (.invokevirtual 118, 3) := by decide +kernel
theorem dX1_nodesFor_72 : decode cX1_nodesFor 72 = .ok (.lstore_n 3, 1) := by decide +kernel
theorem dX1_nodesFor_73 : decode cX1_nodesFor 73 = .ok (.iinc 5 (-1), 3) := by decide +kernel
theorem dX1_nodesFor_76 : decode cX1_nodesFor 76 = .ok (.goto (-35), 3) := by decide +kernel
theorem dX1_nodesFor_79 : decode cX1_nodesFor 79 = .ok (.lload_n 3, 1) := by decide +kernel
theorem dX1_nodesFor_80 : decode cX1_nodesFor 80 = .ok (.lreturn, 1) := by decide +kernel
theorem dX1_keep_0 : decode cX1_keep 0 = .ok (.lconst 0, 1) := by decide +kernel
theorem dX1_keep_1 : decode cX1_keep 1 = .ok (.lstore 5, 2) := by decide +kernel
theorem dX1_keep_3 : decode cX1_keep 3 = .ok (.iload_n 2, 1) := by decide +kernel
theorem dX1_keep_4 : decode cX1_keep 4 = .ok (.iconst 1, 1) := by decide +kernel
theorem dX1_keep_5 : decode cX1_keep 5 = .ok (.iadd, 1) := by decide +kernel
theorem dX1_keep_6 : decode cX1_keep 6 = .ok (.bipush 9, 2) := by decide +kernel
theorem dX1_keep_8 : decode cX1_keep 8 = .ok (.imul, 1) := by decide +kernel
theorem dX1_keep_9 : decode cX1_keep 9 = .ok (.istore 7, 2) := by decide +kernel
theorem dX1_keep_11 : decode cX1_keep 11 = .ok (.iload_n 2, 1) := by decide +kernel
theorem dX1_keep_12 : decode cX1_keep 12 = .ok (.bipush 9, 2) := by decide +kernel
theorem dX1_keep_14 : decode cX1_keep 14 = .ok (.imul, 1) := by decide +kernel
theorem dX1_keep_15 : decode cX1_keep 15 = .ok (.istore 8, 2) := by decide +kernel
theorem dX1_keep_17 : decode cX1_keep 17 = .ok (.iload 8, 2) := by decide +kernel
theorem dX1_keep_19 : decode cX1_keep 19 = .ok (.iload 7, 2) := by decide +kernel
theorem dX1_keep_21 : decode cX1_keep 21 = .ok (.if_icmp .ge 60, 3) := by decide +kernel
theorem dX1_keep_24 : decode cX1_keep 24 = .ok (.aload_n 1, 1) := by decide +kernel
theorem dX1_keep_25 : decode cX1_keep 25 = .ok (.iload 8, 2) := by decide +kernel
theorem dX1_keep_27 : decode cX1_keep 27 = .ok (.invokevirtual 121, 3) := by decide +kernel
theorem dX1_keep_30 : decode cX1_keep 30 = .ok (.ifCond .eq 45, 3) := by decide +kernel
theorem dX1_keep_33 : decode cX1_keep 33 = .ok (.lload_n 3, 1) := by decide +kernel
theorem dX1_keep_34 : decode cX1_keep 34 = .ok (.lstore 9, 2) := by decide +kernel
theorem dX1_keep_36 : decode cX1_keep 36 = .ok (.iload 8, 2) := by decide +kernel
theorem dX1_keep_38 : decode cX1_keep 38 = .ok (.istore 11, 2) := by decide +kernel
theorem dX1_keep_40 : decode cX1_keep 40 = .ok (.iload 11, 2) := by decide +kernel
theorem dX1_keep_42 : decode cX1_keep 42 = .ok (.iload 8, 2) := by decide +kernel
theorem dX1_keep_44 : decode cX1_keep 44 = .ok (.iconst 3, 1) := by decide +kernel
theorem dX1_keep_45 : decode cX1_keep 45 = .ok (.iadd, 1) := by decide +kernel
theorem dX1_keep_46 : decode cX1_keep 46 = .ok (.if_icmp .ge 22, 3) := by decide +kernel
theorem dX1_keep_49 : decode cX1_keep 49 = .ok (.lload 9, 2) := by decide +kernel
theorem dX1_keep_51 : decode cX1_keep 51 = .ok (.aload_n 0, 1) := by decide +kernel
theorem dX1_keep_52 : decode cX1_keep 52 = .ok (.aload_n 1, 1) := by decide +kernel
theorem dX1_keep_53 : decode cX1_keep 53 = .ok (.iload 11, 2) := by decide +kernel
theorem dX1_keep_55 : decode cX1_keep 55 = .ok (.lload_n 3, 1) := by decide +kernel
theorem dX1_keep_56 : decode cX1_keep 56 = .ok (.invokevirtual 124, 3) := by decide +kernel
theorem dX1_keep_59 : decode cX1_keep 59 = .ok (.land, 1) := by decide +kernel
theorem dX1_keep_60 : decode cX1_keep 60 = .ok (.lstore 9, 2) := by decide +kernel
theorem dX1_keep_62 : decode cX1_keep 62 = .ok (.iinc 11 1, 3) := by decide +kernel
theorem dX1_keep_65 : decode cX1_keep 65 = .ok (.goto (-25), 3) := by decide +kernel
theorem dX1_keep_68 : decode cX1_keep 68 = .ok (.lload 5, 2) := by decide +kernel
theorem dX1_keep_70 : decode cX1_keep 70 = .ok (.lload 9, 2) := by decide +kernel
theorem dX1_keep_72 : decode cX1_keep 72 = .ok (.lor, 1) := by decide +kernel
theorem dX1_keep_73 : decode cX1_keep 73 = .ok (.lstore 5, 2) := by decide +kernel
theorem dX1_keep_75 : decode cX1_keep 75 = .ok (.iinc 8 3, 3) := by decide +kernel
theorem dX1_keep_78 : decode cX1_keep 78 = .ok (.goto (-61), 3) := by decide +kernel
theorem dX1_keep_81 : decode cX1_keep 81 = .ok (.lload 5, 2) := by decide +kernel
theorem dX1_keep_83 : decode cX1_keep 83 = .ok (.lreturn, 1) := by decide +kernel
theorem dX1_holding_0 : decode cX1_holding 0 = .ok (.aload_n 1, 1) := by decide +kernel
theorem dX1_holding_1 : decode cX1_holding 1 = .ok (.iload_n 2, 1) := by decide +kernel
theorem dX1_holding_2 : decode cX1_holding 2 = .ok (.invokevirtual 121, 3) := by decide +kernel
theorem dX1_holding_5 : decode cX1_holding 5 = .ok (.istore 5, 2) := by decide +kernel
theorem dX1_holding_7 : decode cX1_holding 7 = .ok (.iload 5, 2) := by decide +kernel
theorem dX1_holding_9 : decode cX1_holding 9 = .ok (.ifCond .eq 13, 3) := by decide +kernel
theorem dX1_holding_12 : decode cX1_holding 12 = .ok (.iload_n 2, 1) := by decide +kernel
theorem dX1_holding_13 : decode cX1_holding 13 = .ok (.ifCond .lt 9, 3) := by decide +kernel
theorem dX1_holding_16 : decode cX1_holding 16 = .ok (.iload_n 2, 1) := by decide +kernel
theorem dX1_holding_17 : decode cX1_holding 17 = .ok (.bipush 27, 2) := by decide +kernel
theorem dX1_holding_19 : decode cX1_holding 19 = .ok (.if_icmp .lt 5, 3) := by decide +kernel
theorem dX1_holding_22 : decode cX1_holding 22 = .ok (.lload_n 3, 1) := by decide +kernel
theorem dX1_holding_23 : decode cX1_holding 23 = .ok (.lreturn, 1) := by decide +kernel
theorem dX1_holding_24 : decode cX1_holding 24 = .ok (.aload_n 0, 1) := by decide +kernel
theorem dX1_holding_25 : decode cX1_holding 25 = .ok (.getfield 15, 3) := by decide +kernel
theorem dX1_holding_28 : decode cX1_holding 28 = .ok (.iload_n 2, 1) := by decide +kernel
theorem dX1_holding_29 : decode cX1_holding 29 = .ok (.laload, 1) := by decide +kernel
theorem dX1_holding_30 : decode cX1_holding 30 = .ok (.lstore 6, 2) := by decide +kernel
theorem dX1_holding_32 : decode cX1_holding 32 = .ok (.iload 5, 2) := by decide +kernel
theorem dX1_holding_34 : decode cX1_holding 34 = .ok (.invokestatic 127, 3) := by decide +kernel
theorem dX1_holding_37 : decode cX1_holding 37 = .ok (.ifCond .eq 18, 3) := by decide +kernel
theorem dX1_holding_40 : decode cX1_holding 40 = .ok (.iload 5, 2) := by decide +kernel
theorem dX1_holding_42 : decode cX1_holding 42 = .ok (.lload_n 3, 1) := by decide +kernel
theorem dX1_holding_43 : decode cX1_holding 43 = .ok (.aload_n 1, 1) := by decide +kernel
theorem dX1_holding_44 : decode cX1_holding 44 = .ok (.getfield 86, 3) := by decide +kernel
theorem dX1_holding_47 : decode cX1_holding 47 = .ok (.invokestatic 131, 3) := by decide +kernel
theorem dX1_holding_50 : decode cX1_holding 50 = .ok (.invokestatic 134, 3) := by decide +kernel
theorem dX1_holding_53 : decode cX1_holding 53 = .ok (.lstore 6, 2) := by decide +kernel
theorem dX1_holding_55 : decode cX1_holding 55 = .ok (.iload 5, 2) := by decide +kernel
theorem dX1_holding_57 : decode cX1_holding 57 = .ok (.invokestatic 138, 3) := by decide +kernel
theorem dX1_holding_60 : decode cX1_holding 60 = .ok (.ifCond .eq 14, 3) := by decide +kernel
theorem dX1_holding_63 : decode cX1_holding 63 = .ok (.lload_n 3, 1) := by decide +kernel
theorem dX1_holding_64 : decode cX1_holding 64 = .ok (.lload 6, 2) := by decide +kernel
theorem dX1_holding_66 : decode cX1_holding 66 = .ok (.ldc2_w 141, 3) := by decide +kernel
theorem dX1_holding_69 : decode cX1_holding 69 = .ok (.lxor, 1) := by decide +kernel
theorem dX1_holding_70 : decode cX1_holding 70 = .ok (.land, 1) := by decide +kernel
theorem dX1_holding_71 : decode cX1_holding 71 = .ok (.goto 7, 3) := by decide +kernel
theorem dX1_holding_74 : decode cX1_holding 74 = .ok (.lload_n 3, 1) := by decide +kernel
theorem dX1_holding_75 : decode cX1_holding 75 = .ok (.lload 6, 2) := by decide +kernel
theorem dX1_holding_77 : decode cX1_holding 77 = .ok (.land, 1) := by decide +kernel
theorem dX1_holding_78 : decode cX1_holding 78 = .ok (.lreturn, 1) := by decide +kernel
theorem dX1_placed_0 : decode cX1_placed 0 = .ok (.lload_n 1, 1) := by decide +kernel
theorem dX1_placed_1 : decode cX1_placed 1 = .ok (.invokestatic 55, 3) := by decide +kernel
theorem dX1_placed_4 : decode cX1_placed 4 = .ok (.istore 4, 2) := by decide +kernel
theorem dX1_placed_6 : decode cX1_placed 6 = .ok (.iload_n 0, 1) := by decide +kernel
theorem dX1_placed_7 : decode cX1_placed 7 = .ok (.invokestatic 97, 3) := by decide +kernel
theorem dX1_placed_10 : decode cX1_placed 10 = .ok (.iconst 2, 1) := by decide +kernel
theorem dX1_placed_11 : decode cX1_placed 11 = .ok (.if_icmp .ne 8, 3) := by decide +kernel
theorem dX1_placed_14 : decode cX1_placed 14 = .ok (.iload 4, 2) := by decide +kernel
theorem dX1_placed_16 : decode cX1_placed 16 = .ok (.goto 7, 3) := by decide +kernel
theorem dX1_placed_19 : decode cX1_placed 19 = .ok (.iload_n 0, 1) := by decide +kernel
theorem dX1_placed_20 : decode cX1_placed 20 = .ok (.invokestatic 103, 3) := by decide +kernel
theorem dX1_placed_23 : decode cX1_placed 23 = .ok (.istore 5, 2) := by decide +kernel
theorem dX1_placed_25 : decode cX1_placed 25 = .ok (.iload 5, 2) := by decide +kernel
theorem dX1_placed_27 : decode cX1_placed 27 = .ok (.iconst 1, 1) := by decide +kernel
theorem dX1_placed_28 : decode cX1_placed 28 = .ok (.if_icmp .lt 10, 3) := by decide +kernel
theorem dX1_placed_31 : decode cX1_placed 31 = .ok (.iload 5, 2) := by decide +kernel
theorem dX1_placed_33 : decode cX1_placed 33 = .ok (.iload 4, 2) := by decide +kernel
theorem dX1_placed_35 : decode cX1_placed 35 = .ok (.if_icmp .le 5, 3) := by decide +kernel
theorem dX1_placed_38 : decode cX1_placed 38 = .ok (.lconst 0, 1) := by decide +kernel
theorem dX1_placed_39 : decode cX1_placed 39 = .ok (.lreturn, 1) := by decide +kernel
theorem dX1_placed_40 : decode cX1_placed 40 = .ok (.lload_n 1, 1) := by decide +kernel
theorem dX1_placed_41 : decode cX1_placed 41 = .ok (.iload_n 3, 1) := by decide +kernel
theorem dX1_placed_42 : decode cX1_placed 42 = .ok (.ifCond .eq 11, 3) := by decide +kernel
theorem dX1_placed_45 : decode cX1_placed 45 = .ok (.iload 4, 2) := by decide +kernel
theorem dX1_placed_47 : decode cX1_placed 47 = .ok (.iload 5, 2) := by decide +kernel
theorem dX1_placed_49 : decode cX1_placed 49 = .ok (.isub, 1) := by decide +kernel
theorem dX1_placed_50 : decode cX1_placed 50 = .ok (.goto 7, 3) := by decide +kernel
theorem dX1_placed_53 : decode cX1_placed 53 = .ok (.iload 5, 2) := by decide +kernel
theorem dX1_placed_55 : decode cX1_placed 55 = .ok (.iconst 1, 1) := by decide +kernel
theorem dX1_placed_56 : decode cX1_placed 56 = .ok (.isub, 1) := by decide +kernel
theorem dX1_placed_57 : decode cX1_placed 57 = .ok (.invokestatic 143, 3) := by decide +kernel
theorem dX1_placed_60 : decode cX1_placed 60 = .ok (.lreturn, 1) := by decide +kernel
theorem dX2_init_0 : decode cX2_init 0 = .ok (.aload_n 0, 1) := by decide +kernel
theorem dX2_init_1 : decode cX2_init 1 = .ok (.invokespecial 3, 3) := by decide +kernel
theorem dX2_init_4 : decode cX2_init 4 = .ok (.aload_n 0, 1) := by decide +kernel
theorem dX2_init_5 : decode cX2_init 5 = .ok (.iconst 4, 1) := by decide +kernel
theorem dX2_init_6 : decode cX2_init 6 = .ok (.anewarray 9, 3) := by decide +kernel
theorem dX2_init_9 : decode cX2_init 9 = .ok (.putfield 11, 3) := by decide +kernel
theorem dX2_init_12 : decode cX2_init 12 = .ok (.aload_n 0, 1) := by decide +kernel
theorem dX2_init_13 : decode cX2_init 13 = .ok (.iconst 0, 1) := by decide +kernel
theorem dX2_init_14 : decode cX2_init 14 = .ok (.putfield 17, 3) := by decide +kernel
theorem dX2_init_17 : decode cX2_init 17 = .ok (.aload_n 0, 1) := by decide +kernel
theorem dX2_init_18 : decode cX2_init 18 = .ok (.iconst 0, 1) := by decide +kernel
theorem dX2_init_19 : decode cX2_init 19 = .ok (.putfield 21, 3) := by decide +kernel
theorem dX2_init_22 : decode cX2_init 22 = .ok (.iconst 0, 1) := by decide +kernel
theorem dX2_init_23 : decode cX2_init 23 = .ok (.istore_n 1, 1) := by decide +kernel
theorem dX2_init_24 : decode cX2_init 24 = .ok (.iload_n 1, 1) := by decide +kernel
theorem dX2_init_25 : decode cX2_init 25 = .ok (.iconst 4, 1) := by decide +kernel
theorem dX2_init_26 : decode cX2_init 26 = .ok (.if_icmp .ge 22, 3) := by decide +kernel
theorem dX2_init_29 : decode cX2_init 29 = .ok (.aload_n 0, 1) := by decide +kernel
theorem dX2_init_30 : decode cX2_init 30 = .ok (.getfield 11, 3) := by decide +kernel
theorem dX2_init_33 : decode cX2_init 33 = .ok (.iload_n 1, 1) := by decide +kernel
theorem dX2_init_34 : decode cX2_init 34 = .ok (.new 9, 3) := by decide +kernel
theorem dX2_init_37 : decode cX2_init 37 = .ok (.dup, 1) := by decide +kernel
theorem dX2_init_38 : decode cX2_init 38 = .ok (.invokespecial 24, 3) := by decide +kernel
theorem dX2_init_41 : decode cX2_init 41 = .ok (.aastore, 1) := by decide +kernel
theorem dX2_init_42 : decode cX2_init 42 = .ok (.iinc 1 1, 3) := by decide +kernel
theorem dX2_init_45 : decode cX2_init 45 = .ok (.goto (-21), 3) := by decide +kernel
theorem dX2_init_48 : decode cX2_init 48 = .ok (.return_, 1) := by decide +kernel
theorem dX2_push_0 : decode cX2_push 0 = .ok (.aload_n 0, 1) := by decide +kernel
theorem dX2_push_1 : decode cX2_push 1 = .ok (.getfield 11, 3) := by decide +kernel
theorem dX2_push_4 : decode cX2_push 4 = .ok (.aload_n 0, 1) := by decide +kernel
theorem dX2_push_5 : decode cX2_push 5 = .ok (.getfield 17, 3) := by decide +kernel
theorem dX2_push_8 : decode cX2_push 8 = .ok (.aaload, 1) := by decide +kernel
theorem dX2_push_9 : decode cX2_push 9 = .ok (.aload_n 1, 1) := by decide +kernel
theorem dX2_push_10 : decode cX2_push 10 = .ok (.invokevirtual 25, 3) := by decide +kernel
theorem dX2_push_13 : decode cX2_push 13 = .ok (.aload_n 0, 1) := by decide +kernel
theorem dX2_push_14 : decode cX2_push 14 = .ok (.aload_n 0, 1) := by decide +kernel
theorem dX2_push_15 : decode cX2_push 15 = .ok (.getfield 17, 3) := by decide +kernel
theorem dX2_push_18 : decode cX2_push 18 = .ok (.iconst 1, 1) := by decide +kernel
theorem dX2_push_19 : decode cX2_push 19 = .ok (.iadd, 1) := by decide +kernel
theorem dX2_push_20 : decode cX2_push 20 = .ok (.iconst 4, 1) := by decide +kernel
theorem dX2_push_21 : decode cX2_push 21 = .ok (.irem, 1) := by decide +kernel
theorem dX2_push_22 : decode cX2_push 22 = .ok (.putfield 17, 3) := by decide +kernel
theorem dX2_push_25 : decode cX2_push 25 = .ok (.aload_n 0, 1) := by decide +kernel
theorem dX2_push_26 : decode cX2_push 26 = .ok (.aload_n 0, 1) := by decide +kernel
theorem dX2_push_27 : decode cX2_push 27 = .ok (.getfield 21, 3) := by decide +kernel
theorem dX2_push_30 : decode cX2_push 30 = .ok (.iconst 1, 1) := by decide +kernel
theorem dX2_push_31 : decode cX2_push 31 = .ok (.iadd, 1) := by decide +kernel
theorem dX2_push_32 : decode cX2_push 32 = .ok (.iconst 4, 1) := by decide +kernel
theorem dX2_push_33 : decode cX2_push 33 = .ok (.invokestatic 29, 3) := by decide +kernel
theorem dX2_push_36 : decode cX2_push 36 = .ok (.putfield 21, 3) := by decide +kernel
theorem dX2_push_39 : decode cX2_push 39 = .ok (.return_, 1) := by decide +kernel
theorem dX2_popTo_0 : decode cX2_popTo 0 = .ok (.aload_n 0, 1) := by decide +kernel
theorem dX2_popTo_1 : decode cX2_popTo 1 = .ok (.aload_n 0, 1) := by decide +kernel
theorem dX2_popTo_2 : decode cX2_popTo 2 = .ok (.getfield 17, 3) := by decide +kernel
theorem dX2_popTo_5 : decode cX2_popTo 5 = .ok (.iconst 4, 1) := by decide +kernel
theorem dX2_popTo_6 : decode cX2_popTo 6 = .ok (.iadd, 1) := by decide +kernel
theorem dX2_popTo_7 : decode cX2_popTo 7 = .ok (.iconst 1, 1) := by decide +kernel
theorem dX2_popTo_8 : decode cX2_popTo 8 = .ok (.isub, 1) := by decide +kernel
theorem dX2_popTo_9 : decode cX2_popTo 9 = .ok (.iconst 4, 1) := by decide +kernel
theorem dX2_popTo_10 : decode cX2_popTo 10 = .ok (.irem, 1) := by decide +kernel
theorem dX2_popTo_11 : decode cX2_popTo 11 = .ok (.putfield 17, 3) := by decide +kernel
theorem dX2_popTo_14 : decode cX2_popTo 14 = .ok (.aload_n 0, 1) := by decide +kernel
theorem dX2_popTo_15 : decode cX2_popTo 15 = .ok (.dup, 1) := by decide +kernel
theorem dX2_popTo_16 : decode cX2_popTo 16 = .ok (.getfield 21, 3) := by decide +kernel
theorem dX2_popTo_19 : decode cX2_popTo 19 = .ok (.iconst 1, 1) := by decide +kernel
theorem dX2_popTo_20 : decode cX2_popTo 20 = .ok (.isub, 1) := by decide +kernel
theorem dX2_popTo_21 : decode cX2_popTo 21 = .ok (.putfield 21, 3) := by decide +kernel
theorem dX2_popTo_24 : decode cX2_popTo 24 = .ok (.aload_n 1, 1) := by decide +kernel
theorem dX2_popTo_25 : decode cX2_popTo 25 = .ok (.aload_n 0, 1) := by decide +kernel
theorem dX2_popTo_26 : decode cX2_popTo 26 = .ok (.getfield 11, 3) := by decide +kernel
theorem dX2_popTo_29 : decode cX2_popTo 29 = .ok (.aload_n 0, 1) := by decide +kernel
theorem dX2_popTo_30 : decode cX2_popTo 30 = .ok (.getfield 17, 3) := by decide +kernel
theorem dX2_popTo_33 : decode cX2_popTo 33 = .ok (.aaload, 1) := by decide +kernel
theorem dX2_popTo_34 : decode cX2_popTo 34 = .ok (.invokevirtual 25, 3) := by decide +kernel
theorem dX2_popTo_37 : decode cX2_popTo 37 = .ok (.return_, 1) := by decide +kernel
theorem dX3_init_0 : decode cX3_init 0 = .ok (.aload_n 0, 1) := by decide +kernel
theorem dX3_init_1 : decode cX3_init 1 = .ok (.invokespecial 3, 3) := by decide +kernel
theorem dX3_init_4 : decode cX3_init 4 = .ok (.aload_n 0, 1) := by decide +kernel
theorem dX3_init_5 : decode cX3_init 5 = .ok (.new 9, 3) := by decide +kernel
theorem dX3_init_8 : decode cX3_init 8 = .ok (.dup, 1) := by decide +kernel
theorem dX3_init_9 : decode cX3_init 9 = .ok (.invokespecial 11, 3) := by decide +kernel
theorem dX3_init_12 : decode cX3_init 12 = .ok (.putfield 12, 3) := by decide +kernel
theorem dX3_init_15 : decode cX3_init 15 = .ok (.aload_n 0, 1) := by decide +kernel
theorem dX3_init_16 : decode cX3_init 16 = .ok (.aload_n 0, 1) := by decide +kernel
theorem dX3_init_17 : decode cX3_init 17 = .ok (.getfield 12, 3) := by decide +kernel
theorem dX3_init_20 : decode cX3_init 20 = .ok (.getfield 18, 3) := by decide +kernel
theorem dX3_init_23 : decode cX3_init 23 = .ok (.iconst 0, 1) := by decide +kernel
theorem dX3_init_24 : decode cX3_init 24 = .ok (.aaload, 1) := by decide +kernel
theorem dX3_init_25 : decode cX3_init 25 = .ok (.putfield 22, 3) := by decide +kernel
theorem dX3_init_28 : decode cX3_init 28 = .ok (.aload_n 0, 1) := by decide +kernel
theorem dX3_init_29 : decode cX3_init 29 = .ok (.aload_n 0, 1) := by decide +kernel
theorem dX3_init_30 : decode cX3_init 30 = .ok (.getfield 22, 3) := by decide +kernel
theorem dX3_init_33 : decode cX3_init 33 = .ok (.getfield 26, 3) := by decide +kernel
theorem dX3_init_36 : decode cX3_init 36 = .ok (.iconst 0, 1) := by decide +kernel
theorem dX3_init_37 : decode cX3_init 37 = .ok (.aaload, 1) := by decide +kernel
theorem dX3_init_38 : decode cX3_init 38 = .ok (.putfield 32, 3) := by decide +kernel
theorem dX3_init_41 : decode cX3_init 41 = .ok (.aload_n 0, 1) := by decide +kernel
theorem dX3_init_42 : decode cX3_init 42 = .ok (.iconst 0, 1) := by decide +kernel
theorem dX3_init_43 : decode cX3_init 43 = .ok (.putfield 36, 3) := by decide +kernel
theorem dX3_init_46 : decode cX3_init 46 = .ok (.aload_n 0, 1) := by decide +kernel
theorem dX3_init_47 : decode cX3_init 47 = .ok (.iconst 0, 1) := by decide +kernel
theorem dX3_init_48 : decode cX3_init 48 = .ok (.putfield 40, 3) := by decide +kernel
theorem dX3_init_51 : decode cX3_init 51 = .ok (.aload_n 0, 1) := by decide +kernel
theorem dX3_init_52 : decode cX3_init 52 = .ok (.iconst 0, 1) := by decide +kernel
theorem dX3_init_53 : decode cX3_init 53 = .ok (.putfield 43, 3) := by decide +kernel
theorem dX3_init_56 : decode cX3_init 56 = .ok (.aload_n 0, 1) := by decide +kernel
theorem dX3_init_57 : decode cX3_init 57 = .ok (.iconst 0, 1) := by decide +kernel
theorem dX3_init_58 : decode cX3_init 58 = .ok (.putfield 46, 3) := by decide +kernel
theorem dX3_init_61 : decode cX3_init 61 = .ok (.return_, 1) := by decide +kernel
theorem dX3_faultOf_0 : decode cX3_faultOf 0 = .ok (.aload_n 0, 1) := by decide +kernel
theorem dX3_faultOf_1 : decode cX3_faultOf 1 = .ok (.getfield 12, 3) := by decide +kernel
theorem dX3_faultOf_4 : decode cX3_faultOf 4 = .ok (.iconst 0, 1) := by decide +kernel
theorem dX3_faultOf_5 : decode cX3_faultOf 5 = .ok (.putfield 49, 3) := by decide +kernel
theorem dX3_faultOf_8 : decode cX3_faultOf 8 = .ok (.aload_n 0, 1) := by decide +kernel
theorem dX3_faultOf_9 : decode cX3_faultOf 9 = .ok (.aload_n 0, 1) := by decide +kernel
theorem dX3_faultOf_10 : decode cX3_faultOf 10 = .ok (.getfield 12, 3) := by decide +kernel
theorem dX3_faultOf_13 : decode cX3_faultOf 13 = .ok (.invokevirtual 52, 3) := by decide +kernel
theorem dX3_faultOf_16 : decode cX3_faultOf 16 = .ok (.putfield 22, 3) := by decide +kernel
theorem dX3_faultOf_19 : decode cX3_faultOf 19 = .ok (.aload_n 0, 1) := by decide +kernel
theorem dX3_faultOf_20 : decode cX3_faultOf 20 = .ok (.iconst 0, 1) := by decide +kernel
theorem dX3_faultOf_21 : decode cX3_faultOf 21 = .ok (.putfield 36, 3) := by decide +kernel
theorem dX3_faultOf_24 : decode cX3_faultOf 24 = .ok (.iconst 0, 1) := by decide +kernel
theorem dX3_faultOf_25 : decode cX3_faultOf 25 = .ok (.istore_n 2, 1) := by decide +kernel
theorem dX3_faultOf_26 : decode cX3_faultOf 26 = .ok (.iload_n 2, 1) := by decide +kernel
theorem dX3_faultOf_27 : decode cX3_faultOf 27 = .ok (.aload_n 1, 1) := by decide +kernel
theorem dX3_faultOf_28 : decode cX3_faultOf 28 = .ok (.getfield 56, 3) := by decide +kernel
theorem dX3_faultOf_31 : decode cX3_faultOf 31 = .ok (.if_icmp .ge 23, 3) := by decide +kernel
theorem dX3_faultOf_34 : decode cX3_faultOf 34 = .ok (.aload_n 0, 1) := by decide +kernel
theorem dX3_faultOf_35 : decode cX3_faultOf 35 = .ok (.aload_n 1, 1) := by decide +kernel
theorem dX3_faultOf_36 : decode cX3_faultOf 36 = .ok (.iload_n 2, 1) := by decide +kernel
theorem dX3_faultOf_37 : decode cX3_faultOf 37 = .ok (.invokevirtual 59, 3) := by decide +kernel
theorem dX3_faultOf_40 : decode cX3_faultOf 40 = .ok (.invokevirtual 63, 3) := by decide +kernel
theorem dX3_faultOf_43 : decode cX3_faultOf 43 = .ok (.ifCond .ne 5, 3) := by decide +kernel
theorem dX3_faultOf_46 : decode cX3_faultOf 46 = .ok (.iload_n 2, 1) := by decide +kernel
theorem dX3_faultOf_47 : decode cX3_faultOf 47 = .ok (.ireturn, 1) := by decide +kernel
theorem dX3_faultOf_48 : decode cX3_faultOf 48 = .ok (.iinc 2 1, 3) := by decide +kernel
theorem dX3_faultOf_51 : decode cX3_faultOf 51 = .ok (.goto (-25), 3) := by decide +kernel
theorem dX3_faultOf_54 : decode cX3_faultOf 54 = .ok (.aload_n 0, 1) := by decide +kernel
theorem dX3_faultOf_55 : decode cX3_faultOf 55 = .ok (.getfield 36, 3) := by decide +kernel
theorem dX3_faultOf_58 : decode cX3_faultOf 58 = .ok (.iconst 4, 1) := by decide +kernel
theorem dX3_faultOf_59 : decode cX3_faultOf 59 = .ok (.if_icmp .ne 7, 3) := by decide +kernel
theorem dX3_faultOf_62 : decode cX3_faultOf 62 = .ok (.iconst (-1), 1) := by decide +kernel
theorem dX3_faultOf_63 : decode cX3_faultOf 63 = .ok (.goto 7, 3) := by decide +kernel
theorem dX3_faultOf_66 : decode cX3_faultOf 66 = .ok (.aload_n 1, 1) := by decide +kernel
theorem dX3_faultOf_67 : decode cX3_faultOf 67 = .ok (.getfield 56, 3) := by decide +kernel
theorem dX3_faultOf_70 : decode cX3_faultOf 70 = .ok (.ireturn, 1) := by decide +kernel
theorem dX3_accepts_0 : decode cX3_accepts 0 = .ok (.aload_n 0, 1) := by decide +kernel
theorem dX3_accepts_1 : decode cX3_accepts 1 = .ok (.getfield 36, 3) := by decide +kernel
theorem dX3_accepts_4 : decode cX3_accepts 4 = .ok (.tableswitch 168 0 10 #[60, 79, 98, 104, 110, 116, 122, 128, 137, 143, 149], 60) := by decide +kernel
theorem dX3_accepts_64 : decode cX3_accepts 64 = .ok (.iload_n 1, 1) := by decide +kernel
theorem dX3_accepts_65 : decode cX3_accepts 65 = .ok (.bipush 47, 2) := by decide +kernel
theorem dX3_accepts_67 : decode cX3_accepts 67 = .ok (.if_icmp .ne 10, 3) := by decide +kernel
theorem dX3_accepts_70 : decode cX3_accepts 70 = .ok (.aload_n 0, 1) := by decide +kernel
theorem dX3_accepts_71 : decode cX3_accepts 71 = .ok (.invokevirtual 67, 3) := by decide +kernel
theorem dX3_accepts_74 : decode cX3_accepts 74 = .ok (.goto 8, 3) := by decide +kernel
theorem dX3_accepts_77 : decode cX3_accepts 77 = .ok (.aload_n 0, 1) := by decide +kernel
theorem dX3_accepts_78 : decode cX3_accepts 78 = .ok (.iload_n 1, 1) := by decide +kernel
theorem dX3_accepts_79 : decode cX3_accepts 79 = .ok (.invokevirtual 71, 3) := by decide +kernel
theorem dX3_accepts_82 : decode cX3_accepts 82 = .ok (.ireturn, 1) := by decide +kernel
theorem dX3_accepts_83 : decode cX3_accepts 83 = .ok (.iload_n 1, 1) := by decide +kernel
theorem dX3_accepts_84 : decode cX3_accepts 84 = .ok (.bipush 47, 2) := by decide +kernel
theorem dX3_accepts_86 : decode cX3_accepts 86 = .ok (.if_icmp .ne 10, 3) := by decide +kernel
theorem dX3_accepts_89 : decode cX3_accepts 89 = .ok (.aload_n 0, 1) := by decide +kernel
theorem dX3_accepts_90 : decode cX3_accepts 90 = .ok (.invokevirtual 74, 3) := by decide +kernel
theorem dX3_accepts_93 : decode cX3_accepts 93 = .ok (.goto 8, 3) := by decide +kernel
theorem dX3_accepts_96 : decode cX3_accepts 96 = .ok (.aload_n 0, 1) := by decide +kernel
theorem dX3_accepts_97 : decode cX3_accepts 97 = .ok (.iload_n 1, 1) := by decide +kernel
theorem dX3_accepts_98 : decode cX3_accepts 98 = .ok (.invokevirtual 71, 3) := by decide +kernel
theorem dX3_accepts_101 : decode cX3_accepts 101 = .ok (.ireturn, 1) := by decide +kernel
theorem dX3_accepts_102 : decode cX3_accepts 102 = .ok (.aload_n 0, 1) := by decide +kernel
theorem dX3_accepts_103 : decode cX3_accepts 103 = .ok (.iload_n 1, 1) := by decide +kernel
theorem dX3_accepts_104 : decode cX3_accepts 104 = .ok (.invokevirtual 71, 3) := by decide +kernel
theorem dX3_accepts_107 : decode cX3_accepts 107 = .ok (.ireturn, 1) := by decide +kernel
theorem dX3_accepts_108 : decode cX3_accepts 108 = .ok (.aload_n 0, 1) := by decide +kernel
theorem dX3_accepts_109 : decode cX3_accepts 109 = .ok (.iload_n 1, 1) := by decide +kernel
theorem dX3_accepts_110 : decode cX3_accepts 110 = .ok (.invokevirtual 77, 3) := by decide +kernel
theorem dX3_accepts_113 : decode cX3_accepts 113 = .ok (.ireturn, 1) := by decide +kernel
theorem dX3_accepts_114 : decode cX3_accepts 114 = .ok (.aload_n 0, 1) := by decide +kernel
theorem dX3_accepts_115 : decode cX3_accepts 115 = .ok (.iload_n 1, 1) := by decide +kernel
theorem dX3_accepts_116 : decode cX3_accepts 116 = .ok (.invokevirtual 80, 3) := by decide +kernel
theorem dX3_accepts_119 : decode cX3_accepts 119 = .ok (.ireturn, 1) := by decide +kernel
theorem dX3_accepts_120 : decode cX3_accepts 120 = .ok (.aload_n 0, 1) := by decide +kernel
theorem dX3_accepts_121 : decode cX3_accepts 121 = .ok (.iload_n 1, 1) := by decide +kernel
theorem dX3_accepts_122 : decode cX3_accepts 122 = .ok (.invokevirtual 83, 3) := by decide +kernel
theorem dX3_accepts_125 : decode cX3_accepts 125 = .ok (.ireturn, 1) := by decide +kernel
theorem dX3_accepts_126 : decode cX3_accepts 126 = .ok (.aload_n 0, 1) := by decide +kernel
theorem dX3_accepts_127 : decode cX3_accepts 127 = .ok (.iload_n 1, 1) := by decide +kernel
theorem dX3_accepts_128 : decode cX3_accepts 128 = .ok (.invokevirtual 86, 3) := by decide +kernel
theorem dX3_accepts_131 : decode cX3_accepts 131 = .ok (.ireturn, 1) := by decide +kernel
theorem dX3_accepts_132 : decode cX3_accepts 132 = .ok (.aload_n 0, 1) := by decide +kernel
theorem dX3_accepts_133 : decode cX3_accepts 133 = .ok (.iload_n 1, 1) := by decide +kernel
theorem dX3_accepts_134 : decode cX3_accepts 134 = .ok (.bipush 48, 2) := by decide +kernel
theorem dX3_accepts_136 : decode cX3_accepts 136 = .ok (.iconst 3, 1) := by decide +kernel
theorem dX3_accepts_137 : decode cX3_accepts 137 = .ok (.invokevirtual 91, 3) := by decide +kernel
theorem dX3_accepts_140 : decode cX3_accepts 140 = .ok (.ireturn, 1) := by decide +kernel
theorem dX3_accepts_141 : decode cX3_accepts 141 = .ok (.aload_n 0, 1) := by decide +kernel
theorem dX3_accepts_142 : decode cX3_accepts 142 = .ok (.iload_n 1, 1) := by decide +kernel
theorem dX3_accepts_143 : decode cX3_accepts 143 = .ok (.invokevirtual 95, 3) := by decide +kernel
theorem dX3_accepts_146 : decode cX3_accepts 146 = .ok (.ireturn, 1) := by decide +kernel
theorem dX3_accepts_147 : decode cX3_accepts 147 = .ok (.aload_n 0, 1) := by decide +kernel
theorem dX3_accepts_148 : decode cX3_accepts 148 = .ok (.iload_n 1, 1) := by decide +kernel
theorem dX3_accepts_149 : decode cX3_accepts 149 = .ok (.invokevirtual 98, 3) := by decide +kernel
theorem dX3_accepts_152 : decode cX3_accepts 152 = .ok (.ireturn, 1) := by decide +kernel
theorem dX3_accepts_153 : decode cX3_accepts 153 = .ok (.iload_n 1, 1) := by decide +kernel
theorem dX3_accepts_154 : decode cX3_accepts 154 = .ok (.bipush 47, 2) := by decide +kernel
theorem dX3_accepts_156 : decode cX3_accepts 156 = .ok (.if_icmp .ne 10, 3) := by decide +kernel
theorem dX3_accepts_159 : decode cX3_accepts 159 = .ok (.aload_n 0, 1) := by decide +kernel
theorem dX3_accepts_160 : decode cX3_accepts 160 = .ok (.invokevirtual 101, 3) := by decide +kernel
theorem dX3_accepts_163 : decode cX3_accepts 163 = .ok (.goto 8, 3) := by decide +kernel
theorem dX3_accepts_166 : decode cX3_accepts 166 = .ok (.aload_n 0, 1) := by decide +kernel
theorem dX3_accepts_167 : decode cX3_accepts 167 = .ok (.iload_n 1, 1) := by decide +kernel
theorem dX3_accepts_168 : decode cX3_accepts 168 = .ok (.invokevirtual 104, 3) := by decide +kernel
theorem dX3_accepts_171 : decode cX3_accepts 171 = .ok (.ireturn, 1) := by decide +kernel
theorem dX3_accepts_172 : decode cX3_accepts 172 = .ok (.aload_n 0, 1) := by decide +kernel
theorem dX3_accepts_173 : decode cX3_accepts 173 = .ok (.iload_n 1, 1) := by decide +kernel
theorem dX3_accepts_174 : decode cX3_accepts 174 = .ok (.invokevirtual 104, 3) := by decide +kernel
theorem dX3_accepts_177 : decode cX3_accepts 177 = .ok (.ireturn, 1) := by decide +kernel
theorem dX3_acceptsFirstSlash_0 : decode cX3_acceptsFirstSlash 0 = .ok (.aload_n 0, 1) := by decide +kernel
theorem dX3_acceptsFirstSlash_1 : decode cX3_acceptsFirstSlash 1 = .ok (.getfield 22, 3) := by decide +kernel
theorem dX3_acceptsFirstSlash_4 : decode cX3_acceptsFirstSlash 4 = .ok (.iconst 1, 1) := by decide +kernel
theorem dX3_acceptsFirstSlash_5 : decode cX3_acceptsFirstSlash 5 = .ok (.putfield 107, 3) := by decide +kernel
theorem dX3_acceptsFirstSlash_8 : decode cX3_acceptsFirstSlash 8 = .ok (.aload_n 0, 1) := by decide +kernel
theorem dX3_acceptsFirstSlash_9 : decode cX3_acceptsFirstSlash 9 = .ok (.iconst 1, 1) := by decide +kernel
theorem dX3_acceptsFirstSlash_10 : decode cX3_acceptsFirstSlash 10 = .ok (.putfield 36, 3) := by decide +kernel
theorem dX3_acceptsFirstSlash_13 : decode cX3_acceptsFirstSlash 13 = .ok (.iconst 1, 1) := by decide +kernel
theorem dX3_acceptsFirstSlash_14 : decode cX3_acceptsFirstSlash 14 = .ok (.ireturn, 1) := by decide +kernel
theorem dX3_acceptsSecondSlash_0 : decode cX3_acceptsSecondSlash 0 = .ok (.aload_n 0, 1) := by decide +kernel
theorem dX3_acceptsSecondSlash_1 : decode cX3_acceptsSecondSlash 1 = .ok (.getfield 22, 3) := by decide +kernel
theorem dX3_acceptsSecondSlash_4 : decode cX3_acceptsSecondSlash 4 = .ok (.invokevirtual 111, 3) := by decide +kernel
theorem dX3_acceptsSecondSlash_7 : decode cX3_acceptsSecondSlash 7 = .ok (.ifCond .eq 5, 3) := by decide +kernel
theorem dX3_acceptsSecondSlash_10 : decode cX3_acceptsSecondSlash 10 = .ok (.iconst 0, 1) := by decide +kernel
theorem dX3_acceptsSecondSlash_11 : decode cX3_acceptsSecondSlash 11 = .ok (.ireturn, 1) := by decide +kernel
theorem dX3_acceptsSecondSlash_12 : decode cX3_acceptsSecondSlash 12 = .ok (.aload_n 0, 1) := by decide +kernel
theorem dX3_acceptsSecondSlash_13 : decode cX3_acceptsSecondSlash 13 = .ok (.getfield 22, 3) := by decide +kernel
theorem dX3_acceptsSecondSlash_16 : decode cX3_acceptsSecondSlash 16 = .ok (.iconst 3, 1) := by decide +kernel
theorem dX3_acceptsSecondSlash_17 : decode cX3_acceptsSecondSlash 17 = .ok (.bipush 8, 2) := by decide +kernel
theorem dX3_acceptsSecondSlash_19 : decode cX3_acceptsSecondSlash 19 = .ok (.invokevirtual 114, 3) := by decide +kernel
theorem dX3_acceptsSecondSlash_22 : decode cX3_acceptsSecondSlash 22 = .ok (.pop, 1) := by decide +kernel
theorem dX3_acceptsSecondSlash_23 : decode cX3_acceptsSecondSlash 23 = .ok (.aload_n 0, 1) := by decide +kernel
theorem dX3_acceptsSecondSlash_24 : decode cX3_acceptsSecondSlash 24 = .ok (.iconst 2, 1) := by decide +kernel
theorem dX3_acceptsSecondSlash_25 : decode cX3_acceptsSecondSlash 25 = .ok (.putfield 36, 3) := by decide +kernel
theorem dX3_acceptsSecondSlash_28 : decode cX3_acceptsSecondSlash 28 = .ok (.iconst 1, 1) := by decide +kernel
theorem dX3_acceptsSecondSlash_29 : decode cX3_acceptsSecondSlash 29 = .ok (.ireturn, 1) := by decide +kernel
theorem dX3_acceptsStep_0 : decode cX3_acceptsStep 0 = .ok (.aload_n 0, 1) := by decide +kernel
theorem dX3_acceptsStep_1 : decode cX3_acceptsStep 1 = .ok (.getfield 22, 3) := by decide +kernel
theorem dX3_acceptsStep_4 : decode cX3_acceptsStep 4 = .ok (.invokevirtual 111, 3) := by decide +kernel
theorem dX3_acceptsStep_7 : decode cX3_acceptsStep 7 = .ok (.ifCond .eq 5, 3) := by decide +kernel
theorem dX3_acceptsStep_10 : decode cX3_acceptsStep 10 = .ok (.iconst 0, 1) := by decide +kernel
theorem dX3_acceptsStep_11 : decode cX3_acceptsStep 11 = .ok (.ireturn, 1) := by decide +kernel
theorem dX3_acceptsStep_12 : decode cX3_acceptsStep 12 = .ok (.aload_n 0, 1) := by decide +kernel
theorem dX3_acceptsStep_13 : decode cX3_acceptsStep 13 = .ok (.iload_n 1, 1) := by decide +kernel
theorem dX3_acceptsStep_14 : decode cX3_acceptsStep 14 = .ok (.invokestatic 118, 3) := by decide +kernel
theorem dX3_acceptsStep_17 : decode cX3_acceptsStep 17 = .ok (.putfield 40, 3) := by decide +kernel
theorem dX3_acceptsStep_20 : decode cX3_acceptsStep 20 = .ok (.aload_n 0, 1) := by decide +kernel
theorem dX3_acceptsStep_21 : decode cX3_acceptsStep 21 = .ok (.getfield 40, 3) := by decide +kernel
theorem dX3_acceptsStep_24 : decode cX3_acceptsStep 24 = .ok (.ifCond .ne 9, 3) := by decide +kernel
theorem dX3_acceptsStep_27 : decode cX3_acceptsStep 27 = .ok (.aload_n 0, 1) := by decide +kernel
theorem dX3_acceptsStep_28 : decode cX3_acceptsStep 28 = .ok (.iload_n 1, 1) := by decide +kernel
theorem dX3_acceptsStep_29 : decode cX3_acceptsStep 29 = .ok (.invokevirtual 77, 3) := by decide +kernel
theorem dX3_acceptsStep_32 : decode cX3_acceptsStep 32 = .ok (.ireturn, 1) := by decide +kernel
theorem dX3_acceptsStep_33 : decode cX3_acceptsStep 33 = .ok (.aload_n 0, 1) := by decide +kernel
theorem dX3_acceptsStep_34 : decode cX3_acceptsStep 34 = .ok (.iconst 3, 1) := by decide +kernel
theorem dX3_acceptsStep_35 : decode cX3_acceptsStep 35 = .ok (.putfield 36, 3) := by decide +kernel
theorem dX3_acceptsStep_38 : decode cX3_acceptsStep 38 = .ok (.iconst 1, 1) := by decide +kernel
theorem dX3_acceptsStep_39 : decode cX3_acceptsStep 39 = .ok (.ireturn, 1) := by decide +kernel
theorem dX3_acceptsTest_0 : decode cX3_acceptsTest 0 = .ok (.iload_n 1, 1) := by decide +kernel
theorem dX3_acceptsTest_1 : decode cX3_acceptsTest 1 = .ok (.invokestatic 121, 3) := by decide +kernel
theorem dX3_acceptsTest_4 : decode cX3_acceptsTest 4 = .ok (.istore_n 2, 1) := by decide +kernel
theorem dX3_acceptsTest_5 : decode cX3_acceptsTest 5 = .ok (.iload_n 2, 1) := by decide +kernel
theorem dX3_acceptsTest_6 : decode cX3_acceptsTest 6 = .ok (.iconst (-1), 1) := by decide +kernel
theorem dX3_acceptsTest_7 : decode cX3_acceptsTest 7 = .ok (.if_icmp .ne 5, 3) := by decide +kernel
theorem dX3_acceptsTest_10 : decode cX3_acceptsTest 10 = .ok (.iconst 0, 1) := by decide +kernel
theorem dX3_acceptsTest_11 : decode cX3_acceptsTest 11 = .ok (.ireturn, 1) := by decide +kernel
theorem dX3_acceptsTest_12 : decode cX3_acceptsTest 12 = .ok (.aload_n 0, 1) := by decide +kernel
theorem dX3_acceptsTest_13 : decode cX3_acceptsTest 13 = .ok (.aload_n 0, 1) := by decide +kernel
theorem dX3_acceptsTest_14 : decode cX3_acceptsTest 14 = .ok (.getfield 22, 3) := by decide +kernel
theorem dX3_acceptsTest_17 : decode cX3_acceptsTest 17 = .ok (.aload_n 0, 1) := by decide +kernel
theorem dX3_acceptsTest_18 : decode cX3_acceptsTest 18 = .ok (.getfield 40, 3) := by decide +kernel
theorem dX3_acceptsTest_21 : decode cX3_acceptsTest 21 = .ok (.iload_n 2, 1) := by decide +kernel
theorem dX3_acceptsTest_22 : decode cX3_acceptsTest 22 = .ok (.invokevirtual 114, 3) := by decide +kernel
theorem dX3_acceptsTest_25 : decode cX3_acceptsTest 25 = .ok (.putfield 32, 3) := by decide +kernel
theorem dX3_acceptsTest_28 : decode cX3_acceptsTest 28 = .ok (.aload_n 0, 1) := by decide +kernel
theorem dX3_acceptsTest_29 : decode cX3_acceptsTest 29 = .ok (.iconst 4, 1) := by decide +kernel
theorem dX3_acceptsTest_30 : decode cX3_acceptsTest 30 = .ok (.putfield 36, 3) := by decide +kernel
theorem dX3_acceptsTest_33 : decode cX3_acceptsTest 33 = .ok (.iconst 1, 1) := by decide +kernel
theorem dX3_acceptsTest_34 : decode cX3_acceptsTest 34 = .ok (.ireturn, 1) := by decide +kernel
theorem dX3_acceptsStepEnd_0 : decode cX3_acceptsStepEnd 0 = .ok (.iload_n 1, 1) := by decide +kernel
theorem dX3_acceptsStepEnd_1 : decode cX3_acceptsStepEnd 1 = .ok (.bipush 47, 2) := by decide +kernel
theorem dX3_acceptsStepEnd_3 : decode cX3_acceptsStepEnd 3 = .ok (.if_icmp .ne 10, 3) := by decide +kernel
theorem dX3_acceptsStepEnd_6 : decode cX3_acceptsStepEnd 6 = .ok (.aload_n 0, 1) := by decide +kernel
theorem dX3_acceptsStepEnd_7 : decode cX3_acceptsStepEnd 7 = .ok (.iconst 1, 1) := by decide +kernel
theorem dX3_acceptsStepEnd_8 : decode cX3_acceptsStepEnd 8 = .ok (.putfield 36, 3) := by decide +kernel
theorem dX3_acceptsStepEnd_11 : decode cX3_acceptsStepEnd 11 = .ok (.iconst 1, 1) := by decide +kernel
theorem dX3_acceptsStepEnd_12 : decode cX3_acceptsStepEnd 12 = .ok (.ireturn, 1) := by decide +kernel
theorem dX3_acceptsStepEnd_13 : decode cX3_acceptsStepEnd 13 = .ok (.iload_n 1, 1) := by decide +kernel
theorem dX3_acceptsStepEnd_14 : decode cX3_acceptsStepEnd 14 = .ok (.bipush 91, 2) := by decide +kernel
theorem dX3_acceptsStepEnd_16 : decode cX3_acceptsStepEnd 16 = .ok (.if_icmp .ne 32, 3) := by decide +kernel
theorem dX3_acceptsStepEnd_19 : decode cX3_acceptsStepEnd 19 = .ok (.aload_n 0, 1) := by decide +kernel
theorem dX3_acceptsStepEnd_20 : decode cX3_acceptsStepEnd 20 = .ok (.getfield 32, 3) := by decide +kernel
theorem dX3_acceptsStepEnd_23 : decode cX3_acceptsStepEnd 23 = .ok (.getfield 124, 3) := by decide +kernel
theorem dX3_acceptsStepEnd_26 : decode cX3_acceptsStepEnd 26 = .ok (.iconst 3, 1) := by decide +kernel
theorem dX3_acceptsStepEnd_27 : decode cX3_acceptsStepEnd 27 = .ok (.if_icmp .ge 21, 3) := by decide +kernel
theorem dX3_acceptsStepEnd_30 : decode cX3_acceptsStepEnd 30 = .ok (.aload_n 0, 1) := by decide +kernel
theorem dX3_acceptsStepEnd_31 : decode cX3_acceptsStepEnd 31 = .ok (.aload_n 0, 1) := by decide +kernel
theorem dX3_acceptsStepEnd_32 : decode cX3_acceptsStepEnd 32 = .ok (.getfield 32, 3) := by decide +kernel
theorem dX3_acceptsStepEnd_35 : decode cX3_acceptsStepEnd 35 = .ok (.invokevirtual 129, 3) := by decide +kernel
theorem dX3_acceptsStepEnd_38 : decode cX3_acceptsStepEnd 38 = .ok (.putfield 43, 3) := by decide +kernel
theorem dX3_acceptsStepEnd_41 : decode cX3_acceptsStepEnd 41 = .ok (.aload_n 0, 1) := by decide +kernel
theorem dX3_acceptsStepEnd_42 : decode cX3_acceptsStepEnd 42 = .ok (.iconst 5, 1) := by decide +kernel
theorem dX3_acceptsStepEnd_43 : decode cX3_acceptsStepEnd 43 = .ok (.putfield 36, 3) := by decide +kernel
theorem dX3_acceptsStepEnd_46 : decode cX3_acceptsStepEnd 46 = .ok (.iconst 1, 1) := by decide +kernel
theorem dX3_acceptsStepEnd_47 : decode cX3_acceptsStepEnd 47 = .ok (.ireturn, 1) := by decide +kernel
theorem dX3_acceptsStepEnd_48 : decode cX3_acceptsStepEnd 48 = .ok (.iload_n 1, 1) := by decide +kernel
theorem dX3_acceptsStepEnd_49 : decode cX3_acceptsStepEnd 49 = .ok (.bipush 124, 2) := by decide +kernel
theorem dX3_acceptsStepEnd_51 : decode cX3_acceptsStepEnd 51 = .ok (.if_icmp .ne 31, 3) := by decide +kernel
theorem dX3_acceptsStepEnd_54 : decode cX3_acceptsStepEnd 54 = .ok (.aload_n 0, 1) := by decide +kernel
theorem dX3_acceptsStepEnd_55 : decode cX3_acceptsStepEnd 55 = .ok (.getfield 12, 3) := by decide +kernel
theorem dX3_acceptsStepEnd_58 : decode cX3_acceptsStepEnd 58 = .ok (.invokevirtual 133, 3) := by decide +kernel
theorem dX3_acceptsStepEnd_61 : decode cX3_acceptsStepEnd 61 = .ok (.ifCond .ne 21, 3) := by decide +kernel
theorem dX3_acceptsStepEnd_64 : decode cX3_acceptsStepEnd 64 = .ok (.aload_n 0, 1) := by decide +kernel
theorem dX3_acceptsStepEnd_65 : decode cX3_acceptsStepEnd 65 = .ok (.aload_n 0, 1) := by decide +kernel
theorem dX3_acceptsStepEnd_66 : decode cX3_acceptsStepEnd 66 = .ok (.getfield 12, 3) := by decide +kernel
theorem dX3_acceptsStepEnd_69 : decode cX3_acceptsStepEnd 69 = .ok (.invokevirtual 52, 3) := by decide +kernel
theorem dX3_acceptsStepEnd_72 : decode cX3_acceptsStepEnd 72 = .ok (.putfield 22, 3) := by decide +kernel
theorem dX3_acceptsStepEnd_75 : decode cX3_acceptsStepEnd 75 = .ok (.aload_n 0, 1) := by decide +kernel
theorem dX3_acceptsStepEnd_76 : decode cX3_acceptsStepEnd 76 = .ok (.iconst 0, 1) := by decide +kernel
theorem dX3_acceptsStepEnd_77 : decode cX3_acceptsStepEnd 77 = .ok (.putfield 36, 3) := by decide +kernel
theorem dX3_acceptsStepEnd_80 : decode cX3_acceptsStepEnd 80 = .ok (.iconst 1, 1) := by decide +kernel
theorem dX3_acceptsStepEnd_81 : decode cX3_acceptsStepEnd 81 = .ok (.ireturn, 1) := by decide +kernel
theorem dX3_acceptsStepEnd_82 : decode cX3_acceptsStepEnd 82 = .ok (.iconst 0, 1) := by decide +kernel
theorem dX3_acceptsStepEnd_83 : decode cX3_acceptsStepEnd 83 = .ok (.ireturn, 1) := by decide +kernel
theorem dX3_acceptsCondition_0 : decode cX3_acceptsCondition 0 = .ok (.aload_n 0, 1) := by decide +kernel
theorem dX3_acceptsCondition_1 : decode cX3_acceptsCondition 1 = .ok (.iload_n 1, 1) := by decide +kernel
theorem dX3_acceptsCondition_2 : decode cX3_acceptsCondition 2 = .ok (.bipush 45, 2) := by decide +kernel
theorem dX3_acceptsCondition_4 : decode cX3_acceptsCondition 4 = .ok (.if_icmp .ne 8, 3) := by decide +kernel
theorem dX3_acceptsCondition_7 : decode cX3_acceptsCondition 7 = .ok (.bipush 8, 2) := by decide +kernel
theorem dX3_acceptsCondition_9 : decode cX3_acceptsCondition 9 = .ok (.goto 4, 3) := by decide +kernel
theorem dX3_acceptsCondition_12 : decode cX3_acceptsCondition 12 = .ok (.iconst 0, 1) := by decide +kernel
theorem dX3_acceptsCondition_13 : decode cX3_acceptsCondition 13 = .ok (.putfield 46, 3) := by decide +kernel
theorem dX3_acceptsCondition_16 : decode cX3_acceptsCondition 16 = .ok (.iload_n 1, 1) := by decide +kernel
theorem dX3_acceptsCondition_17 : decode cX3_acceptsCondition 17 = .ok (.bipush 45, 2) := by decide +kernel
theorem dX3_acceptsCondition_19 : decode cX3_acceptsCondition 19 = .ok (.if_icmp .eq 9, 3) := by decide +kernel
theorem dX3_acceptsCondition_22 : decode cX3_acceptsCondition 22 = .ok (.aload_n 0, 1) := by decide +kernel
theorem dX3_acceptsCondition_23 : decode cX3_acceptsCondition 23 = .ok (.iload_n 1, 1) := by decide +kernel
theorem dX3_acceptsCondition_24 : decode cX3_acceptsCondition 24 = .ok (.invokevirtual 86, 3) := by decide +kernel
theorem dX3_acceptsCondition_27 : decode cX3_acceptsCondition 27 = .ok (.ireturn, 1) := by decide +kernel
theorem dX3_acceptsCondition_28 : decode cX3_acceptsCondition 28 = .ok (.aload_n 0, 1) := by decide +kernel
theorem dX3_acceptsCondition_29 : decode cX3_acceptsCondition 29 = .ok (.bipush 6, 2) := by decide +kernel
theorem dX3_acceptsCondition_31 : decode cX3_acceptsCondition 31 = .ok (.putfield 36, 3) := by decide +kernel
theorem dX3_acceptsCondition_34 : decode cX3_acceptsCondition 34 = .ok (.iconst 1, 1) := by decide +kernel
theorem dX3_acceptsCondition_35 : decode cX3_acceptsCondition 35 = .ok (.ireturn, 1) := by decide +kernel
theorem dX3_acceptsAtom_0 : decode cX3_acceptsAtom 0 = .ok (.iload_n 1, 1) := by decide +kernel
theorem dX3_acceptsAtom_1 : decode cX3_acceptsAtom 1 = .ok (.lookupswitch 93 #[(36, 35), (61, 60), (63, 68)], 35) := by decide +kernel
theorem dX3_acceptsAtom_36 : decode cX3_acceptsAtom 36 = .ok (.aload_n 0, 1) := by decide +kernel
theorem dX3_acceptsAtom_37 : decode cX3_acceptsAtom 37 = .ok (.getfield 32, 3) := by decide +kernel
theorem dX3_acceptsAtom_40 : decode cX3_acceptsAtom 40 = .ok (.aload_n 0, 1) := by decide +kernel
theorem dX3_acceptsAtom_41 : decode cX3_acceptsAtom 41 = .ok (.getfield 43, 3) := by decide +kernel
theorem dX3_acceptsAtom_44 : decode cX3_acceptsAtom 44 = .ok (.iconst 2, 1) := by decide +kernel
theorem dX3_acceptsAtom_45 : decode cX3_acceptsAtom 45 = .ok (.aload_n 0, 1) := by decide +kernel
theorem dX3_acceptsAtom_46 : decode cX3_acceptsAtom 46 = .ok (.getfield 46, 3) := by decide +kernel
theorem dX3_acceptsAtom_49 : decode cX3_acceptsAtom 49 = .ok (.ior, 1) := by decide +kernel
theorem dX3_acceptsAtom_50 : decode cX3_acceptsAtom 50 = .ok (.invokevirtual 134, 3) := by decide +kernel
theorem dX3_acceptsAtom_53 : decode cX3_acceptsAtom 53 = .ok (.aload_n 0, 1) := by decide +kernel
theorem dX3_acceptsAtom_54 : decode cX3_acceptsAtom 54 = .ok (.bipush 11, 2) := by decide +kernel
theorem dX3_acceptsAtom_56 : decode cX3_acceptsAtom 56 = .ok (.putfield 36, 3) := by decide +kernel
theorem dX3_acceptsAtom_59 : decode cX3_acceptsAtom 59 = .ok (.iconst 1, 1) := by decide +kernel
theorem dX3_acceptsAtom_60 : decode cX3_acceptsAtom 60 = .ok (.ireturn, 1) := by decide +kernel
theorem dX3_acceptsAtom_61 : decode cX3_acceptsAtom 61 = .ok (.aload_n 0, 1) := by decide +kernel
theorem dX3_acceptsAtom_62 : decode cX3_acceptsAtom 62 = .ok (.bipush 7, 2) := by decide +kernel
theorem dX3_acceptsAtom_64 : decode cX3_acceptsAtom 64 = .ok (.putfield 36, 3) := by decide +kernel
theorem dX3_acceptsAtom_67 : decode cX3_acceptsAtom 67 = .ok (.iconst 1, 1) := by decide +kernel
theorem dX3_acceptsAtom_68 : decode cX3_acceptsAtom 68 = .ok (.ireturn, 1) := by decide +kernel
theorem dX3_acceptsAtom_69 : decode cX3_acceptsAtom 69 = .ok (.aload_n 0, 1) := by decide +kernel
theorem dX3_acceptsAtom_70 : decode cX3_acceptsAtom 70 = .ok (.getfield 32, 3) := by decide +kernel
theorem dX3_acceptsAtom_73 : decode cX3_acceptsAtom 73 = .ok (.aload_n 0, 1) := by decide +kernel
theorem dX3_acceptsAtom_74 : decode cX3_acceptsAtom 74 = .ok (.getfield 43, 3) := by decide +kernel
theorem dX3_acceptsAtom_77 : decode cX3_acceptsAtom 77 = .ok (.iconst 4, 1) := by decide +kernel
theorem dX3_acceptsAtom_78 : decode cX3_acceptsAtom 78 = .ok (.aload_n 0, 1) := by decide +kernel
theorem dX3_acceptsAtom_79 : decode cX3_acceptsAtom 79 = .ok (.getfield 46, 3) := by decide +kernel
theorem dX3_acceptsAtom_82 : decode cX3_acceptsAtom 82 = .ok (.ior, 1) := by decide +kernel
theorem dX3_acceptsAtom_83 : decode cX3_acceptsAtom 83 = .ok (.invokevirtual 134, 3) := by decide +kernel
theorem dX3_acceptsAtom_86 : decode cX3_acceptsAtom 86 = .ok (.aload_n 0, 1) := by decide +kernel
theorem dX3_acceptsAtom_87 : decode cX3_acceptsAtom 87 = .ok (.bipush 8, 2) := by decide +kernel
theorem dX3_acceptsAtom_89 : decode cX3_acceptsAtom 89 = .ok (.putfield 36, 3) := by decide +kernel
theorem dX3_acceptsAtom_92 : decode cX3_acceptsAtom 92 = .ok (.iconst 1, 1) := by decide +kernel
theorem dX3_acceptsAtom_93 : decode cX3_acceptsAtom 93 = .ok (.ireturn, 1) := by decide +kernel
theorem dX3_acceptsAtom_94 : decode cX3_acceptsAtom 94 = .ok (.aload_n 0, 1) := by decide +kernel
theorem dX3_acceptsAtom_95 : decode cX3_acceptsAtom 95 = .ok (.iload_n 1, 1) := by decide +kernel
theorem dX3_acceptsAtom_96 : decode cX3_acceptsAtom 96 = .ok (.bipush 49, 2) := by decide +kernel
theorem dX3_acceptsAtom_98 : decode cX3_acceptsAtom 98 = .ok (.iconst 1, 1) := by decide +kernel
theorem dX3_acceptsAtom_99 : decode cX3_acceptsAtom 99 = .ok (.invokevirtual 91, 3) := by decide +kernel
theorem dX3_acceptsAtom_102 : decode cX3_acceptsAtom 102 = .ok (.ireturn, 1) := by decide +kernel
theorem dX3_acceptsDigit_0 : decode cX3_acceptsDigit 0 = .ok (.iload_n 1, 1) := by decide +kernel
theorem dX3_acceptsDigit_1 : decode cX3_acceptsDigit 1 = .ok (.iload_n 2, 1) := by decide +kernel
theorem dX3_acceptsDigit_2 : decode cX3_acceptsDigit 2 = .ok (.if_icmp .lt 9, 3) := by decide +kernel
theorem dX3_acceptsDigit_5 : decode cX3_acceptsDigit 5 = .ok (.iload_n 1, 1) := by decide +kernel
theorem dX3_acceptsDigit_6 : decode cX3_acceptsDigit 6 = .ok (.bipush 57, 2) := by decide +kernel
theorem dX3_acceptsDigit_8 : decode cX3_acceptsDigit 8 = .ok (.if_icmp .le 5, 3) := by decide +kernel
theorem dX3_acceptsDigit_11 : decode cX3_acceptsDigit 11 = .ok (.iconst 0, 1) := by decide +kernel
theorem dX3_acceptsDigit_12 : decode cX3_acceptsDigit 12 = .ok (.ireturn, 1) := by decide +kernel
theorem dX3_acceptsDigit_13 : decode cX3_acceptsDigit 13 = .ok (.aload_n 0, 1) := by decide +kernel
theorem dX3_acceptsDigit_14 : decode cX3_acceptsDigit 14 = .ok (.getfield 32, 3) := by decide +kernel
theorem dX3_acceptsDigit_17 : decode cX3_acceptsDigit 17 = .ok (.aload_n 0, 1) := by decide +kernel
theorem dX3_acceptsDigit_18 : decode cX3_acceptsDigit 18 = .ok (.getfield 43, 3) := by decide +kernel
theorem dX3_acceptsDigit_21 : decode cX3_acceptsDigit 21 = .ok (.iload_n 3, 1) := by decide +kernel
theorem dX3_acceptsDigit_22 : decode cX3_acceptsDigit 22 = .ok (.iload_n 1, 1) := by decide +kernel
theorem dX3_acceptsDigit_23 : decode cX3_acceptsDigit 23 = .ok (.bipush 48, 2) := by decide +kernel
theorem dX3_acceptsDigit_25 : decode cX3_acceptsDigit 25 = .ok (.isub, 1) := by decide +kernel
theorem dX3_acceptsDigit_26 : decode cX3_acceptsDigit 26 = .ok (.invokestatic 138, 3) := by decide +kernel
theorem dX3_acceptsDigit_29 : decode cX3_acceptsDigit 29 = .ok (.aload_n 0, 1) := by decide +kernel
theorem dX3_acceptsDigit_30 : decode cX3_acceptsDigit 30 = .ok (.getfield 46, 3) := by decide +kernel
theorem dX3_acceptsDigit_33 : decode cX3_acceptsDigit 33 = .ok (.ior, 1) := by decide +kernel
theorem dX3_acceptsDigit_34 : decode cX3_acceptsDigit 34 = .ok (.invokevirtual 134, 3) := by decide +kernel
theorem dX3_acceptsDigit_37 : decode cX3_acceptsDigit 37 = .ok (.aload_n 0, 1) := by decide +kernel
theorem dX3_acceptsDigit_38 : decode cX3_acceptsDigit 38 = .ok (.bipush 11, 2) := by decide +kernel
theorem dX3_acceptsDigit_40 : decode cX3_acceptsDigit 40 = .ok (.putfield 36, 3) := by decide +kernel
theorem dX3_acceptsDigit_43 : decode cX3_acceptsDigit 43 = .ok (.iconst 1, 1) := by decide +kernel
theorem dX3_acceptsDigit_44 : decode cX3_acceptsDigit 44 = .ok (.ireturn, 1) := by decide +kernel
theorem dX3_acceptsShortStep_0 : decode cX3_acceptsShortStep 0 = .ok (.aload_n 0, 1) := by decide +kernel
theorem dX3_acceptsShortStep_1 : decode cX3_acceptsShortStep 1 = .ok (.iload_n 1, 1) := by decide +kernel
theorem dX3_acceptsShortStep_2 : decode cX3_acceptsShortStep 2 = .ok (.invokestatic 118, 3) := by decide +kernel
theorem dX3_acceptsShortStep_5 : decode cX3_acceptsShortStep 5 = .ok (.putfield 40, 3) := by decide +kernel
theorem dX3_acceptsShortStep_8 : decode cX3_acceptsShortStep 8 = .ok (.aload_n 0, 1) := by decide +kernel
theorem dX3_acceptsShortStep_9 : decode cX3_acceptsShortStep 9 = .ok (.getfield 40, 3) := by decide +kernel
theorem dX3_acceptsShortStep_12 : decode cX3_acceptsShortStep 12 = .ok (.ifCond .ne 9, 3) := by decide +kernel
theorem dX3_acceptsShortStep_15 : decode cX3_acceptsShortStep 15 = .ok (.aload_n 0, 1) := by decide +kernel
theorem dX3_acceptsShortStep_16 : decode cX3_acceptsShortStep 16 = .ok (.iload_n 1, 1) := by decide +kernel
theorem dX3_acceptsShortStep_17 : decode cX3_acceptsShortStep 17 = .ok (.invokevirtual 98, 3) := by decide +kernel
theorem dX3_acceptsShortStep_20 : decode cX3_acceptsShortStep 20 = .ok (.ireturn, 1) := by decide +kernel
theorem dX3_acceptsShortStep_21 : decode cX3_acceptsShortStep 21 = .ok (.aload_n 0, 1) := by decide +kernel
theorem dX3_acceptsShortStep_22 : decode cX3_acceptsShortStep 22 = .ok (.bipush 9, 2) := by decide +kernel
theorem dX3_acceptsShortStep_24 : decode cX3_acceptsShortStep 24 = .ok (.putfield 36, 3) := by decide +kernel
theorem dX3_acceptsShortStep_27 : decode cX3_acceptsShortStep 27 = .ok (.iconst 1, 1) := by decide +kernel
theorem dX3_acceptsShortStep_28 : decode cX3_acceptsShortStep 28 = .ok (.ireturn, 1) := by decide +kernel
theorem dX3_acceptsShortTest_0 : decode cX3_acceptsShortTest 0 = .ok (.iload_n 1, 1) := by decide +kernel
theorem dX3_acceptsShortTest_1 : decode cX3_acceptsShortTest 1 = .ok (.invokestatic 121, 3) := by decide +kernel
theorem dX3_acceptsShortTest_4 : decode cX3_acceptsShortTest 4 = .ok (.istore_n 2, 1) := by decide +kernel
theorem dX3_acceptsShortTest_5 : decode cX3_acceptsShortTest 5 = .ok (.iload_n 2, 1) := by decide +kernel
theorem dX3_acceptsShortTest_6 : decode cX3_acceptsShortTest 6 = .ok (.iconst (-1), 1) := by decide +kernel
theorem dX3_acceptsShortTest_7 : decode cX3_acceptsShortTest 7 = .ok (.if_icmp .ne 5, 3) := by decide +kernel
theorem dX3_acceptsShortTest_10 : decode cX3_acceptsShortTest 10 = .ok (.iconst 0, 1) := by decide +kernel
theorem dX3_acceptsShortTest_11 : decode cX3_acceptsShortTest 11 = .ok (.ireturn, 1) := by decide +kernel
theorem dX3_acceptsShortTest_12 : decode cX3_acceptsShortTest 12 = .ok (.aload_n 0, 1) := by decide +kernel
theorem dX3_acceptsShortTest_13 : decode cX3_acceptsShortTest 13 = .ok (.getfield 32, 3) := by decide +kernel
theorem dX3_acceptsShortTest_16 : decode cX3_acceptsShortTest 16 = .ok (.aload_n 0, 1) := by decide +kernel
theorem dX3_acceptsShortTest_17 : decode cX3_acceptsShortTest 17 = .ok (.getfield 43, 3) := by decide +kernel
theorem dX3_acceptsShortTest_20 : decode cX3_acceptsShortTest 20 = .ok (.aload_n 0, 1) := by decide +kernel
theorem dX3_acceptsShortTest_21 : decode cX3_acceptsShortTest 21 = .ok (.getfield 32, 3) := by decide +kernel
theorem dX3_acceptsShortTest_24 : decode cX3_acceptsShortTest 24 = .ok (.aload_n 0, 1) := by decide +kernel
theorem dX3_acceptsShortTest_25 : decode cX3_acceptsShortTest 25 = .ok (.getfield 43, 3) := by decide +kernel
theorem dX3_acceptsShortTest_28 : decode cX3_acceptsShortTest 28 = .ok (.invokevirtual 142, 3) := by decide +kernel
theorem dX3_acceptsShortTest_31 : decode cX3_acceptsShortTest 31 = .ok (.aload_n 0, 1) := by decide +kernel
theorem dX3_acceptsShortTest_32 : decode cX3_acceptsShortTest 32 = .ok (.getfield 40, 3) := by decide +kernel
theorem dX3_acceptsShortTest_35 : decode cX3_acceptsShortTest 35 = .ok (.iload_n 2, 1) := by decide +kernel
theorem dX3_acceptsShortTest_36 : decode cX3_acceptsShortTest 36 = .ok (.invokestatic 145, 3) := by decide +kernel
theorem dX3_acceptsShortTest_39 : decode cX3_acceptsShortTest 39 = .ok (.invokevirtual 134, 3) := by decide +kernel
theorem dX3_acceptsShortTest_42 : decode cX3_acceptsShortTest 42 = .ok (.aload_n 0, 1) := by decide +kernel
theorem dX3_acceptsShortTest_43 : decode cX3_acceptsShortTest 43 = .ok (.bipush 10, 2) := by decide +kernel
theorem dX3_acceptsShortTest_45 : decode cX3_acceptsShortTest 45 = .ok (.putfield 36, 3) := by decide +kernel
theorem dX3_acceptsShortTest_48 : decode cX3_acceptsShortTest 48 = .ok (.iconst 1, 1) := by decide +kernel
theorem dX3_acceptsShortTest_49 : decode cX3_acceptsShortTest 49 = .ok (.ireturn, 1) := by decide +kernel
theorem dX3_acceptsShortSlash_0 : decode cX3_acceptsShortSlash 0 = .ok (.aload_n 0, 1) := by decide +kernel
theorem dX3_acceptsShortSlash_1 : decode cX3_acceptsShortSlash 1 = .ok (.getfield 32, 3) := by decide +kernel
theorem dX3_acceptsShortSlash_4 : decode cX3_acceptsShortSlash 4 = .ok (.aload_n 0, 1) := by decide +kernel
theorem dX3_acceptsShortSlash_5 : decode cX3_acceptsShortSlash 5 = .ok (.getfield 43, 3) := by decide +kernel
theorem dX3_acceptsShortSlash_8 : decode cX3_acceptsShortSlash 8 = .ok (.invokevirtual 142, 3) := by decide +kernel
theorem dX3_acceptsShortSlash_11 : decode cX3_acceptsShortSlash 11 = .ok (.invokestatic 149, 3) := by decide +kernel
theorem dX3_acceptsShortSlash_14 : decode cX3_acceptsShortSlash 14 = .ok (.iconst 3, 1) := by decide +kernel
theorem dX3_acceptsShortSlash_15 : decode cX3_acceptsShortSlash 15 = .ok (.if_icmp .lt 5, 3) := by decide +kernel
theorem dX3_acceptsShortSlash_18 : decode cX3_acceptsShortSlash 18 = .ok (.iconst 0, 1) := by decide +kernel
theorem dX3_acceptsShortSlash_19 : decode cX3_acceptsShortSlash 19 = .ok (.ireturn, 1) := by decide +kernel
theorem dX3_acceptsShortSlash_20 : decode cX3_acceptsShortSlash 20 = .ok (.aload_n 0, 1) := by decide +kernel
theorem dX3_acceptsShortSlash_21 : decode cX3_acceptsShortSlash 21 = .ok (.bipush 8, 2) := by decide +kernel
theorem dX3_acceptsShortSlash_23 : decode cX3_acceptsShortSlash 23 = .ok (.putfield 36, 3) := by decide +kernel
theorem dX3_acceptsShortSlash_26 : decode cX3_acceptsShortSlash 26 = .ok (.iconst 1, 1) := by decide +kernel
theorem dX3_acceptsShortSlash_27 : decode cX3_acceptsShortSlash 27 = .ok (.ireturn, 1) := by decide +kernel
theorem dX3_acceptsConditionEnd_0 : decode cX3_acceptsConditionEnd 0 = .ok (.aload_n 0, 1) := by decide +kernel
theorem dX3_acceptsConditionEnd_1 : decode cX3_acceptsConditionEnd 1 = .ok (.getfield 43, 3) := by decide +kernel
theorem dX3_acceptsConditionEnd_4 : decode cX3_acceptsConditionEnd 4 = .ok (.bipush 9, 2) := by decide +kernel
theorem dX3_acceptsConditionEnd_6 : decode cX3_acceptsConditionEnd 6 = .ok (.irem, 1) := by decide +kernel
theorem dX3_acceptsConditionEnd_7 : decode cX3_acceptsConditionEnd 7 = .ok (.istore_n 2, 1) := by decide +kernel
theorem dX3_acceptsConditionEnd_8 : decode cX3_acceptsConditionEnd 8 = .ok (.iload_n 2, 1) := by decide +kernel
theorem dX3_acceptsConditionEnd_9 : decode cX3_acceptsConditionEnd 9 = .ok (.iconst 3, 1) := by decide +kernel
theorem dX3_acceptsConditionEnd_10 : decode cX3_acceptsConditionEnd 10 = .ok (.irem, 1) := by decide +kernel
theorem dX3_acceptsConditionEnd_11 : decode cX3_acceptsConditionEnd 11 = .ok (.istore_n 3, 1) := by decide +kernel
theorem dX3_acceptsConditionEnd_12 : decode cX3_acceptsConditionEnd 12 = .ok (.iload_n 1, 1) := by decide +kernel
theorem dX3_acceptsConditionEnd_13 : decode cX3_acceptsConditionEnd 13 = .ok (.bipush 93, 2) := by decide +kernel
theorem dX3_acceptsConditionEnd_15 : decode cX3_acceptsConditionEnd 15 = .ok (.if_icmp .ne 10, 3) := by decide +kernel
theorem dX3_acceptsConditionEnd_18 : decode cX3_acceptsConditionEnd 18 = .ok (.aload_n 0, 1) := by decide +kernel
theorem dX3_acceptsConditionEnd_19 : decode cX3_acceptsConditionEnd 19 = .ok (.iconst 4, 1) := by decide +kernel
theorem dX3_acceptsConditionEnd_20 : decode cX3_acceptsConditionEnd 20 = .ok (.putfield 36, 3) := by decide +kernel
theorem dX3_acceptsConditionEnd_23 : decode cX3_acceptsConditionEnd 23 = .ok (.iconst 1, 1) := by decide +kernel
theorem dX3_acceptsConditionEnd_24 : decode cX3_acceptsConditionEnd 24 = .ok (.ireturn, 1) := by decide +kernel
theorem dX3_acceptsConditionEnd_25 : decode cX3_acceptsConditionEnd 25 = .ok (.iload_n 1, 1) := by decide +kernel
theorem dX3_acceptsConditionEnd_26 : decode cX3_acceptsConditionEnd 26 = .ok (.bipush 44, 2) := by decide +kernel
theorem dX3_acceptsConditionEnd_28 : decode cX3_acceptsConditionEnd 28 = .ok (.if_icmp .ne 25, 3) := by decide +kernel
theorem dX3_acceptsConditionEnd_31 : decode cX3_acceptsConditionEnd 31 = .ok (.iload_n 3, 1) := by decide +kernel
theorem dX3_acceptsConditionEnd_32 : decode cX3_acceptsConditionEnd 32 = .ok (.iconst 2, 1) := by decide +kernel
theorem dX3_acceptsConditionEnd_33 : decode cX3_acceptsConditionEnd 33 = .ok (.if_icmp .ge 20, 3) := by decide +kernel
theorem dX3_acceptsConditionEnd_36 : decode cX3_acceptsConditionEnd 36 = .ok (.aload_n 0, 1) := by decide +kernel
theorem dX3_acceptsConditionEnd_37 : decode cX3_acceptsConditionEnd 37 = .ok (.dup, 1) := by decide +kernel
theorem dX3_acceptsConditionEnd_38 : decode cX3_acceptsConditionEnd 38 = .ok (.getfield 43, 3) := by decide +kernel
theorem dX3_acceptsConditionEnd_41 : decode cX3_acceptsConditionEnd 41 = .ok (.iconst 1, 1) := by decide +kernel
theorem dX3_acceptsConditionEnd_42 : decode cX3_acceptsConditionEnd 42 = .ok (.iadd, 1) := by decide +kernel
theorem dX3_acceptsConditionEnd_43 : decode cX3_acceptsConditionEnd 43 = .ok (.putfield 43, 3) := by decide +kernel
theorem dX3_acceptsConditionEnd_46 : decode cX3_acceptsConditionEnd 46 = .ok (.aload_n 0, 1) := by decide +kernel
theorem dX3_acceptsConditionEnd_47 : decode cX3_acceptsConditionEnd 47 = .ok (.iconst 5, 1) := by decide +kernel
theorem dX3_acceptsConditionEnd_48 : decode cX3_acceptsConditionEnd 48 = .ok (.putfield 36, 3) := by decide +kernel
theorem dX3_acceptsConditionEnd_51 : decode cX3_acceptsConditionEnd 51 = .ok (.iconst 1, 1) := by decide +kernel
theorem dX3_acceptsConditionEnd_52 : decode cX3_acceptsConditionEnd 52 = .ok (.ireturn, 1) := by decide +kernel
theorem dX3_acceptsConditionEnd_53 : decode cX3_acceptsConditionEnd 53 = .ok (.iload_n 1, 1) := by decide +kernel
theorem dX3_acceptsConditionEnd_54 : decode cX3_acceptsConditionEnd 54 = .ok (.bipush 43, 2) := by decide +kernel
theorem dX3_acceptsConditionEnd_56 : decode cX3_acceptsConditionEnd 56 = .ok (.if_icmp .ne 28, 3) := by decide +kernel
theorem dX3_acceptsConditionEnd_59 : decode cX3_acceptsConditionEnd 59 = .ok (.iload_n 2, 1) := by decide +kernel
theorem dX3_acceptsConditionEnd_60 : decode cX3_acceptsConditionEnd 60 = .ok (.bipush 6, 2) := by decide +kernel
theorem dX3_acceptsConditionEnd_62 : decode cX3_acceptsConditionEnd 62 = .ok (.if_icmp .ge 22, 3) := by decide +kernel
theorem dX3_acceptsConditionEnd_65 : decode cX3_acceptsConditionEnd 65 = .ok (.aload_n 0, 1) := by decide +kernel
theorem dX3_acceptsConditionEnd_66 : decode cX3_acceptsConditionEnd 66 = .ok (.dup, 1) := by decide +kernel
theorem dX3_acceptsConditionEnd_67 : decode cX3_acceptsConditionEnd 67 = .ok (.getfield 43, 3) := by decide +kernel
theorem dX3_acceptsConditionEnd_70 : decode cX3_acceptsConditionEnd 70 = .ok (.iconst 3, 1) := by decide +kernel
theorem dX3_acceptsConditionEnd_71 : decode cX3_acceptsConditionEnd 71 = .ok (.iload_n 3, 1) := by decide +kernel
theorem dX3_acceptsConditionEnd_72 : decode cX3_acceptsConditionEnd 72 = .ok (.isub, 1) := by decide +kernel
theorem dX3_acceptsConditionEnd_73 : decode cX3_acceptsConditionEnd 73 = .ok (.iadd, 1) := by decide +kernel
theorem dX3_acceptsConditionEnd_74 : decode cX3_acceptsConditionEnd 74 = .ok (.putfield 43, 3) := by decide +kernel
theorem dX3_acceptsConditionEnd_77 : decode cX3_acceptsConditionEnd 77 = .ok (.aload_n 0, 1) := by decide +kernel
theorem dX3_acceptsConditionEnd_78 : decode cX3_acceptsConditionEnd 78 = .ok (.iconst 5, 1) := by decide +kernel
theorem dX3_acceptsConditionEnd_79 : decode cX3_acceptsConditionEnd 79 = .ok (.putfield 36, 3) := by decide +kernel
theorem dX3_acceptsConditionEnd_82 : decode cX3_acceptsConditionEnd 82 = .ok (.iconst 1, 1) := by decide +kernel
theorem dX3_acceptsConditionEnd_83 : decode cX3_acceptsConditionEnd 83 = .ok (.ireturn, 1) := by decide +kernel
theorem dX3_acceptsConditionEnd_84 : decode cX3_acceptsConditionEnd 84 = .ok (.iconst 0, 1) := by decide +kernel
theorem dX3_acceptsConditionEnd_85 : decode cX3_acceptsConditionEnd 85 = .ok (.ireturn, 1) := by decide +kernel
theorem dX3_axisOf_0 : decode cX3_axisOf 0 = .ok (.ldc 152, 2) := by decide +kernel
theorem dX3_axisOf_2 : decode cX3_axisOf 2 = .ok (.iload_n 0, 1) := by decide +kernel
theorem dX3_axisOf_3 : decode cX3_axisOf 3 = .ok (.i2c, 1) := by decide +kernel
theorem dX3_axisOf_4 : decode cX3_axisOf 4 = .ok (.invokevirtual 154, 3) := by decide +kernel
theorem dX3_axisOf_7 : decode cX3_axisOf 7 = .ok (.iconst 1, 1) := by decide +kernel
theorem dX3_axisOf_8 : decode cX3_axisOf 8 = .ok (.iadd, 1) := by decide +kernel
theorem dX3_axisOf_9 : decode cX3_axisOf 9 = .ok (.ireturn, 1) := by decide +kernel
theorem dX3_testOf_0 : decode cX3_testOf 0 = .ok (.iload_n 0, 1) := by decide +kernel
theorem dX3_testOf_1 : decode cX3_testOf 1 = .ok (.bipush 42, 2) := by decide +kernel
theorem dX3_testOf_3 : decode cX3_testOf 3 = .ok (.if_icmp .ne 6, 3) := by decide +kernel
theorem dX3_testOf_6 : decode cX3_testOf 6 = .ok (.bipush 8, 2) := by decide +kernel
theorem dX3_testOf_8 : decode cX3_testOf 8 = .ok (.ireturn, 1) := by decide +kernel
theorem dX3_testOf_9 : decode cX3_testOf 9 = .ok (.iload_n 0, 1) := by decide +kernel
theorem dX3_testOf_10 : decode cX3_testOf 10 = .ok (.bipush 97, 2) := by decide +kernel
theorem dX3_testOf_12 : decode cX3_testOf 12 = .ok (.if_icmp .lt 16, 3) := by decide +kernel
theorem dX3_testOf_15 : decode cX3_testOf 15 = .ok (.iload_n 0, 1) := by decide +kernel
theorem dX3_testOf_16 : decode cX3_testOf 16 = .ok (.bipush 105, 2) := by decide +kernel
theorem dX3_testOf_18 : decode cX3_testOf 18 = .ok (.if_icmp .ge 10, 3) := by decide +kernel
theorem dX3_testOf_21 : decode cX3_testOf 21 = .ok (.iload_n 0, 1) := by decide +kernel
theorem dX3_testOf_22 : decode cX3_testOf 22 = .ok (.bipush 97, 2) := by decide +kernel
theorem dX3_testOf_24 : decode cX3_testOf 24 = .ok (.isub, 1) := by decide +kernel
theorem dX3_testOf_25 : decode cX3_testOf 25 = .ok (.goto 4, 3) := by decide +kernel
theorem dX3_testOf_28 : decode cX3_testOf 28 = .ok (.iconst (-1), 1) := by decide +kernel
theorem dX3_testOf_29 : decode cX3_testOf 29 = .ok (.ireturn, 1) := by decide +kernel
theorem dX4_init_0 : decode cX4_init 0 = .ok (.aload_n 0, 1) := by decide +kernel
theorem dX4_init_1 : decode cX4_init 1 = .ok (.invokespecial 3, 3) := by decide +kernel
theorem dX4_init_4 : decode cX4_init 4 = .ok (.aload_n 0, 1) := by decide +kernel
theorem dX4_init_5 : decode cX4_init 5 = .ok (.iconst 0, 1) := by decide +kernel
theorem dX4_init_6 : decode cX4_init 6 = .ok (.putfield 9, 3) := by decide +kernel
theorem dX4_init_9 : decode cX4_init 9 = .ok (.aload_n 0, 1) := by decide +kernel
theorem dX4_init_10 : decode cX4_init 10 = .ok (.iconst 0, 1) := by decide +kernel
theorem dX4_init_11 : decode cX4_init 11 = .ok (.putfield 15, 3) := by decide +kernel
theorem dX4_init_14 : decode cX4_init 14 = .ok (.aload_n 0, 1) := by decide +kernel
theorem dX4_init_15 : decode cX4_init 15 = .ok (.bipush 8, 2) := by decide +kernel
theorem dX4_init_17 : decode cX4_init 17 = .ok (.anewarray 19, 3) := by decide +kernel
theorem dX4_init_20 : decode cX4_init 20 = .ok (.putfield 21, 3) := by decide +kernel
theorem dX4_init_23 : decode cX4_init 23 = .ok (.iconst 0, 1) := by decide +kernel
theorem dX4_init_24 : decode cX4_init 24 = .ok (.istore_n 1, 1) := by decide +kernel
theorem dX4_init_25 : decode cX4_init 25 = .ok (.iload_n 1, 1) := by decide +kernel
theorem dX4_init_26 : decode cX4_init 26 = .ok (.bipush 8, 2) := by decide +kernel
theorem dX4_init_28 : decode cX4_init 28 = .ok (.if_icmp .ge 22, 3) := by decide +kernel
theorem dX4_init_31 : decode cX4_init 31 = .ok (.aload_n 0, 1) := by decide +kernel
theorem dX4_init_32 : decode cX4_init 32 = .ok (.getfield 21, 3) := by decide +kernel
theorem dX4_init_35 : decode cX4_init 35 = .ok (.iload_n 1, 1) := by decide +kernel
theorem dX4_init_36 : decode cX4_init 36 = .ok (.new 19, 3) := by decide +kernel
theorem dX4_init_39 : decode cX4_init 39 = .ok (.dup, 1) := by decide +kernel
theorem dX4_init_40 : decode cX4_init 40 = .ok (.invokespecial 25, 3) := by decide +kernel
theorem dX4_init_43 : decode cX4_init 43 = .ok (.aastore, 1) := by decide +kernel
theorem dX4_init_44 : decode cX4_init 44 = .ok (.iinc 1 1, 3) := by decide +kernel
theorem dX4_init_47 : decode cX4_init 47 = .ok (.goto (-22), 3) := by decide +kernel
theorem dX4_init_50 : decode cX4_init 50 = .ok (.return_, 1) := by decide +kernel
theorem dX4_begin_0 : decode cX4_begin 0 = .ok (.aload_n 0, 1) := by decide +kernel
theorem dX4_begin_1 : decode cX4_begin 1 = .ok (.iconst 0, 1) := by decide +kernel
theorem dX4_begin_2 : decode cX4_begin 2 = .ok (.putfield 9, 3) := by decide +kernel
theorem dX4_begin_5 : decode cX4_begin 5 = .ok (.aload_n 0, 1) := by decide +kernel
theorem dX4_begin_6 : decode cX4_begin 6 = .ok (.iconst 0, 1) := by decide +kernel
theorem dX4_begin_7 : decode cX4_begin 7 = .ok (.putfield 15, 3) := by decide +kernel
theorem dX4_begin_10 : decode cX4_begin 10 = .ok (.return_, 1) := by decide +kernel
theorem dX4_copyFrom_0 : decode cX4_copyFrom 0 = .ok (.aload_n 0, 1) := by decide +kernel
theorem dX4_copyFrom_1 : decode cX4_copyFrom 1 = .ok (.aload_n 1, 1) := by decide +kernel
theorem dX4_copyFrom_2 : decode cX4_copyFrom 2 = .ok (.getfield 9, 3) := by decide +kernel
theorem dX4_copyFrom_5 : decode cX4_copyFrom 5 = .ok (.putfield 9, 3) := by decide +kernel
theorem dX4_copyFrom_8 : decode cX4_copyFrom 8 = .ok (.aload_n 0, 1) := by decide +kernel
theorem dX4_copyFrom_9 : decode cX4_copyFrom 9 = .ok (.aload_n 1, 1) := by decide +kernel
theorem dX4_copyFrom_10 : decode cX4_copyFrom 10 = .ok (.getfield 15, 3) := by decide +kernel
theorem dX4_copyFrom_13 : decode cX4_copyFrom 13 = .ok (.putfield 15, 3) := by decide +kernel
theorem dX4_copyFrom_16 : decode cX4_copyFrom 16 = .ok (.iconst 0, 1) := by decide +kernel
theorem dX4_copyFrom_17 : decode cX4_copyFrom 17 = .ok (.istore_n 2, 1) := by decide +kernel
theorem dX4_copyFrom_18 : decode cX4_copyFrom 18 = .ok (.iload_n 2, 1) := by decide +kernel
theorem dX4_copyFrom_19 : decode cX4_copyFrom 19 = .ok (.aload_n 0, 1) := by decide +kernel
theorem dX4_copyFrom_20 : decode cX4_copyFrom 20 = .ok (.getfield 15, 3) := by decide +kernel
theorem dX4_copyFrom_23 : decode cX4_copyFrom 23 = .ok (.if_icmp .ge 24, 3) := by decide +kernel
theorem dX4_copyFrom_26 : decode cX4_copyFrom 26 = .ok (.aload_n 0, 1) := by decide +kernel
theorem dX4_copyFrom_27 : decode cX4_copyFrom 27 = .ok (.getfield 21, 3) := by decide +kernel
theorem dX4_copyFrom_30 : decode cX4_copyFrom 30 = .ok (.iload_n 2, 1) := by decide +kernel
theorem dX4_copyFrom_31 : decode cX4_copyFrom 31 = .ok (.aaload, 1) := by decide +kernel
theorem dX4_copyFrom_32 : decode cX4_copyFrom 32 = .ok (.aload_n 1, 1) := by decide +kernel
theorem dX4_copyFrom_33 : decode cX4_copyFrom 33 = .ok (.getfield 21, 3) := by decide +kernel
theorem dX4_copyFrom_36 : decode cX4_copyFrom 36 = .ok (.iload_n 2, 1) := by decide +kernel
theorem dX4_copyFrom_37 : decode cX4_copyFrom 37 = .ok (.aaload, 1) := by decide +kernel
theorem dX4_copyFrom_38 : decode cX4_copyFrom 38 = .ok (.invokevirtual 26, 3) := by decide +kernel
theorem dX4_copyFrom_41 : decode cX4_copyFrom 41 = .ok (.iinc 2 1, 3) := by decide +kernel
theorem dX4_copyFrom_44 : decode cX4_copyFrom 44 = .ok (.goto (-26), 3) := by decide +kernel
theorem dX4_copyFrom_47 : decode cX4_copyFrom 47 = .ok (.return_, 1) := by decide +kernel
theorem dX4_isFull_0 : decode cX4_isFull 0 = .ok (.aload_n 0, 1) := by decide +kernel
theorem dX4_isFull_1 : decode cX4_isFull 1 = .ok (.getfield 15, 3) := by decide +kernel
theorem dX4_isFull_4 : decode cX4_isFull 4 = .ok (.bipush 8, 2) := by decide +kernel
theorem dX4_isFull_6 : decode cX4_isFull 6 = .ok (.if_icmp .lt 7, 3) := by decide +kernel
theorem dX4_isFull_9 : decode cX4_isFull 9 = .ok (.iconst 1, 1) := by decide +kernel
theorem dX4_isFull_10 : decode cX4_isFull 10 = .ok (.goto 4, 3) := by decide +kernel
theorem dX4_isFull_13 : decode cX4_isFull 13 = .ok (.iconst 0, 1) := by decide +kernel
theorem dX4_isFull_14 : decode cX4_isFull 14 = .ok (.ireturn, 1) := by decide +kernel
theorem dX4_addStep_0 : decode cX4_addStep 0 = .ok (.aload_n 0, 1) := by decide +kernel
theorem dX4_addStep_1 : decode cX4_addStep 1 = .ok (.getfield 21, 3) := by decide +kernel
theorem dX4_addStep_4 : decode cX4_addStep 4 = .ok (.aload_n 0, 1) := by decide +kernel
theorem dX4_addStep_5 : decode cX4_addStep 5 = .ok (.getfield 15, 3) := by decide +kernel
theorem dX4_addStep_8 : decode cX4_addStep 8 = .ok (.bipush 7, 2) := by decide +kernel
theorem dX4_addStep_10 : decode cX4_addStep 10 = .ok (.invokestatic 30, 3) := by decide +kernel
theorem dX4_addStep_13 : decode cX4_addStep 13 = .ok (.aaload, 1) := by decide +kernel
theorem dX4_addStep_14 : decode cX4_addStep 14 = .ok (.astore_n 3, 1) := by decide +kernel
theorem dX4_addStep_15 : decode cX4_addStep 15 = .ok (.aload_n 3, 1) := by decide +kernel
theorem dX4_addStep_16 : decode cX4_addStep 16 = .ok (.iload_n 1, 1) := by decide +kernel
theorem dX4_addStep_17 : decode cX4_addStep 17 = .ok (.iload_n 2, 1) := by decide +kernel
theorem dX4_addStep_18 : decode cX4_addStep 18 = .ok (.invokevirtual 36, 3) := by decide +kernel
theorem dX4_addStep_21 : decode cX4_addStep 21 = .ok (.aload_n 0, 1) := by decide +kernel
theorem dX4_addStep_22 : decode cX4_addStep 22 = .ok (.aload_n 0, 1) := by decide +kernel
theorem dX4_addStep_23 : decode cX4_addStep 23 = .ok (.getfield 15, 3) := by decide +kernel
theorem dX4_addStep_26 : decode cX4_addStep 26 = .ok (.iconst 1, 1) := by decide +kernel
theorem dX4_addStep_27 : decode cX4_addStep 27 = .ok (.iadd, 1) := by decide +kernel
theorem dX4_addStep_28 : decode cX4_addStep 28 = .ok (.bipush 8, 2) := by decide +kernel
theorem dX4_addStep_30 : decode cX4_addStep 30 = .ok (.invokestatic 30, 3) := by decide +kernel
theorem dX4_addStep_33 : decode cX4_addStep 33 = .ok (.putfield 15, 3) := by decide +kernel
theorem dX4_addStep_36 : decode cX4_addStep 36 = .ok (.aload_n 3, 1) := by decide +kernel
theorem dX4_addStep_37 : decode cX4_addStep 37 = .ok (.areturn, 1) := by decide +kernel
theorem dX4_removeStep_0 : decode cX4_removeStep 0 = .ok (.iload_n 1, 1) := by decide +kernel
theorem dX4_removeStep_1 : decode cX4_removeStep 1 = .ok (.ifCond .lt 20, 3) := by decide +kernel
theorem dX4_removeStep_4 : decode cX4_removeStep 4 = .ok (.iload_n 1, 1) := by decide +kernel
theorem dX4_removeStep_5 : decode cX4_removeStep 5 = .ok (.aload_n 0, 1) := by decide +kernel
theorem dX4_removeStep_6 : decode cX4_removeStep 6 = .ok (.getfield 15, 3) := by decide +kernel
theorem dX4_removeStep_9 : decode cX4_removeStep 9 = .ok (.if_icmp .ge 12, 3) := by decide +kernel
theorem dX4_removeStep_12 : decode cX4_removeStep 12 = .ok (.aload_n 0, 1) := by decide +kernel
theorem dX4_removeStep_13 : decode cX4_removeStep 13 = .ok (.getfield 15, 3) := by decide +kernel
theorem dX4_removeStep_16 : decode cX4_removeStep 16 = .ok (.bipush 8, 2) := by decide +kernel
theorem dX4_removeStep_18 : decode cX4_removeStep 18 = .ok (.if_icmp .le 4, 3) := by decide +kernel
theorem dX4_removeStep_21 : decode cX4_removeStep 21 = .ok (.return_, 1) := by decide +kernel
theorem dX4_removeStep_22 : decode cX4_removeStep 22 = .ok (.aload_n 0, 1) := by decide +kernel
theorem dX4_removeStep_23 : decode cX4_removeStep 23 = .ok (.getfield 21, 3) := by decide +kernel
theorem dX4_removeStep_26 : decode cX4_removeStep 26 = .ok (.iload_n 1, 1) := by decide +kernel
theorem dX4_removeStep_27 : decode cX4_removeStep 27 = .ok (.aaload, 1) := by decide +kernel
theorem dX4_removeStep_28 : decode cX4_removeStep 28 = .ok (.astore_n 2, 1) := by decide +kernel
theorem dX4_removeStep_29 : decode cX4_removeStep 29 = .ok (.iload_n 1, 1) := by decide +kernel
theorem dX4_removeStep_30 : decode cX4_removeStep 30 = .ok (.istore_n 3, 1) := by decide +kernel
theorem dX4_removeStep_31 : decode cX4_removeStep 31 = .ok (.iload_n 3, 1) := by decide +kernel
theorem dX4_removeStep_32 : decode cX4_removeStep 32 = .ok (.iconst 1, 1) := by decide +kernel
theorem dX4_removeStep_33 : decode cX4_removeStep 33 = .ok (.iadd, 1) := by decide +kernel
theorem dX4_removeStep_34 : decode cX4_removeStep 34 = .ok (.aload_n 0, 1) := by decide +kernel
theorem dX4_removeStep_35 : decode cX4_removeStep 35 = .ok (.getfield 15, 3) := by decide +kernel
theorem dX4_removeStep_38 : decode cX4_removeStep 38 = .ok (.if_icmp .ge 23, 3) := by decide +kernel
theorem dX4_removeStep_41 : decode cX4_removeStep 41 = .ok (.aload_n 0, 1) := by decide +kernel
theorem dX4_removeStep_42 : decode cX4_removeStep 42 = .ok (.getfield 21, 3) := by decide +kernel
theorem dX4_removeStep_45 : decode cX4_removeStep 45 = .ok (.iload_n 3, 1) := by decide +kernel
theorem dX4_removeStep_46 : decode cX4_removeStep 46 = .ok (.aload_n 0, 1) := by decide +kernel
theorem dX4_removeStep_47 : decode cX4_removeStep 47 = .ok (.getfield 21, 3) := by decide +kernel
theorem dX4_removeStep_50 : decode cX4_removeStep 50 = .ok (.iload_n 3, 1) := by decide +kernel
theorem dX4_removeStep_51 : decode cX4_removeStep 51 = .ok (.iconst 1, 1) := by decide +kernel
theorem dX4_removeStep_52 : decode cX4_removeStep 52 = .ok (.iadd, 1) := by decide +kernel
theorem dX4_removeStep_53 : decode cX4_removeStep 53 = .ok (.aaload, 1) := by decide +kernel
theorem dX4_removeStep_54 : decode cX4_removeStep 54 = .ok (.aastore, 1) := by decide +kernel
theorem dX4_removeStep_55 : decode cX4_removeStep 55 = .ok (.iinc 3 1, 3) := by decide +kernel
theorem dX4_removeStep_58 : decode cX4_removeStep 58 = .ok (.goto (-27), 3) := by decide +kernel
theorem dX4_removeStep_61 : decode cX4_removeStep 61 = .ok (.aload_n 0, 1) := by decide +kernel
theorem dX4_removeStep_62 : decode cX4_removeStep 62 = .ok (.getfield 21, 3) := by decide +kernel
theorem dX4_removeStep_65 : decode cX4_removeStep 65 = .ok (.aload_n 0, 1) := by decide +kernel
theorem dX4_removeStep_66 : decode cX4_removeStep 66 = .ok (.getfield 15, 3) := by decide +kernel
theorem dX4_removeStep_69 : decode cX4_removeStep 69 = .ok (.iconst 1, 1) := by decide +kernel
theorem dX4_removeStep_70 : decode cX4_removeStep 70 = .ok (.isub, 1) := by decide +kernel
theorem dX4_removeStep_71 : decode cX4_removeStep 71 = .ok (.aload_n 2, 1) := by decide +kernel
theorem dX4_removeStep_72 : decode cX4_removeStep 72 = .ok (.aastore, 1) := by decide +kernel
theorem dX4_removeStep_73 : decode cX4_removeStep 73 = .ok (.aload_n 0, 1) := by decide +kernel
theorem dX4_removeStep_74 : decode cX4_removeStep 74 = .ok (.dup, 1) := by decide +kernel
theorem dX4_removeStep_75 : decode cX4_removeStep 75 = .ok (.getfield 15, 3) := by decide +kernel
theorem dX4_removeStep_78 : decode cX4_removeStep 78 = .ok (.iconst 1, 1) := by decide +kernel
theorem dX4_removeStep_79 : decode cX4_removeStep 79 = .ok (.isub, 1) := by decide +kernel
theorem dX4_removeStep_80 : decode cX4_removeStep 80 = .ok (.putfield 15, 3) := by decide +kernel
theorem dX4_removeStep_83 : decode cX4_removeStep 83 = .ok (.return_, 1) := by decide +kernel
theorem dX4_isLike_0 : decode cX4_isLike 0 = .ok (.aload_n 0, 1) := by decide +kernel
theorem dX4_isLike_1 : decode cX4_isLike 1 = .ok (.getfield 9, 3) := by decide +kernel
theorem dX4_isLike_4 : decode cX4_isLike 4 = .ok (.aload_n 1, 1) := by decide +kernel
theorem dX4_isLike_5 : decode cX4_isLike 5 = .ok (.getfield 9, 3) := by decide +kernel
theorem dX4_isLike_8 : decode cX4_isLike 8 = .ok (.if_icmp .ne 14, 3) := by decide +kernel
theorem dX4_isLike_11 : decode cX4_isLike 11 = .ok (.aload_n 0, 1) := by decide +kernel
theorem dX4_isLike_12 : decode cX4_isLike 12 = .ok (.getfield 15, 3) := by decide +kernel
theorem dX4_isLike_15 : decode cX4_isLike 15 = .ok (.aload_n 1, 1) := by decide +kernel
theorem dX4_isLike_16 : decode cX4_isLike 16 = .ok (.getfield 15, 3) := by decide +kernel
theorem dX4_isLike_19 : decode cX4_isLike 19 = .ok (.if_icmp .eq 5, 3) := by decide +kernel
theorem dX4_isLike_22 : decode cX4_isLike 22 = .ok (.iconst 0, 1) := by decide +kernel
theorem dX4_isLike_23 : decode cX4_isLike 23 = .ok (.ireturn, 1) := by decide +kernel
theorem dX4_isLike_24 : decode cX4_isLike 24 = .ok (.iconst 0, 1) := by decide +kernel
theorem dX4_isLike_25 : decode cX4_isLike 25 = .ok (.istore_n 2, 1) := by decide +kernel
theorem dX4_isLike_26 : decode cX4_isLike 26 = .ok (.iload_n 2, 1) := by decide +kernel
theorem dX4_isLike_27 : decode cX4_isLike 27 = .ok (.aload_n 0, 1) := by decide +kernel
theorem dX4_isLike_28 : decode cX4_isLike 28 = .ok (.getfield 15, 3) := by decide +kernel
theorem dX4_isLike_31 : decode cX4_isLike 31 = .ok (.if_icmp .ge 29, 3) := by decide +kernel
theorem dX4_isLike_34 : decode cX4_isLike 34 = .ok (.aload_n 0, 1) := by decide +kernel
theorem dX4_isLike_35 : decode cX4_isLike 35 = .ok (.getfield 21, 3) := by decide +kernel
theorem dX4_isLike_38 : decode cX4_isLike 38 = .ok (.iload_n 2, 1) := by decide +kernel
theorem dX4_isLike_39 : decode cX4_isLike 39 = .ok (.aaload, 1) := by decide +kernel
theorem dX4_isLike_40 : decode cX4_isLike 40 = .ok (.aload_n 1, 1) := by decide +kernel
theorem dX4_isLike_41 : decode cX4_isLike 41 = .ok (.getfield 21, 3) := by decide +kernel
theorem dX4_isLike_44 : decode cX4_isLike 44 = .ok (.iload_n 2, 1) := by decide +kernel
theorem dX4_isLike_45 : decode cX4_isLike 45 = .ok (.aaload, 1) := by decide +kernel
theorem dX4_isLike_46 : decode cX4_isLike 46 = .ok (.invokevirtual 40, 3) := by decide +kernel
theorem dX4_isLike_49 : decode cX4_isLike 49 = .ok (.ifCond .ne 5, 3) := by decide +kernel
theorem dX4_isLike_52 : decode cX4_isLike 52 = .ok (.iconst 0, 1) := by decide +kernel
theorem dX4_isLike_53 : decode cX4_isLike 53 = .ok (.ireturn, 1) := by decide +kernel
theorem dX4_isLike_54 : decode cX4_isLike 54 = .ok (.iinc 2 1, 3) := by decide +kernel
theorem dX4_isLike_57 : decode cX4_isLike 57 = .ok (.goto (-31), 3) := by decide +kernel
theorem dX4_isLike_60 : decode cX4_isLike 60 = .ok (.iconst 1, 1) := by decide +kernel
theorem dX4_isLike_61 : decode cX4_isLike 61 = .ok (.ireturn, 1) := by decide +kernel
theorem dX5_init_0 : decode cX5_init 0 = .ok (.aload_n 0, 1) := by decide +kernel
theorem dX5_init_1 : decode cX5_init 1 = .ok (.invokespecial 3, 3) := by decide +kernel
theorem dX5_init_4 : decode cX5_init 4 = .ok (.aload_n 0, 1) := by decide +kernel
theorem dX5_init_5 : decode cX5_init 5 = .ok (.iconst 0, 1) := by decide +kernel
theorem dX5_init_6 : decode cX5_init 6 = .ok (.putfield 9, 3) := by decide +kernel
theorem dX5_init_9 : decode cX5_init 9 = .ok (.aload_n 0, 1) := by decide +kernel
theorem dX5_init_10 : decode cX5_init 10 = .ok (.iconst 4, 1) := by decide +kernel
theorem dX5_init_11 : decode cX5_init 11 = .ok (.anewarray 15, 3) := by decide +kernel
theorem dX5_init_14 : decode cX5_init 14 = .ok (.putfield 17, 3) := by decide +kernel
theorem dX5_init_17 : decode cX5_init 17 = .ok (.iconst 0, 1) := by decide +kernel
theorem dX5_init_18 : decode cX5_init 18 = .ok (.istore_n 1, 1) := by decide +kernel
theorem dX5_init_19 : decode cX5_init 19 = .ok (.iload_n 1, 1) := by decide +kernel
theorem dX5_init_20 : decode cX5_init 20 = .ok (.iconst 4, 1) := by decide +kernel
theorem dX5_init_21 : decode cX5_init 21 = .ok (.if_icmp .ge 22, 3) := by decide +kernel
theorem dX5_init_24 : decode cX5_init 24 = .ok (.aload_n 0, 1) := by decide +kernel
theorem dX5_init_25 : decode cX5_init 25 = .ok (.getfield 17, 3) := by decide +kernel
theorem dX5_init_28 : decode cX5_init 28 = .ok (.iload_n 1, 1) := by decide +kernel
theorem dX5_init_29 : decode cX5_init 29 = .ok (.new 15, 3) := by decide +kernel
theorem dX5_init_32 : decode cX5_init 32 = .ok (.dup, 1) := by decide +kernel
theorem dX5_init_33 : decode cX5_init 33 = .ok (.invokespecial 21, 3) := by decide +kernel
theorem dX5_init_36 : decode cX5_init 36 = .ok (.aastore, 1) := by decide +kernel
theorem dX5_init_37 : decode cX5_init 37 = .ok (.iinc 1 1, 3) := by decide +kernel
theorem dX5_init_40 : decode cX5_init 40 = .ok (.goto (-21), 3) := by decide +kernel
theorem dX5_init_43 : decode cX5_init 43 = .ok (.return_, 1) := by decide +kernel
theorem dX5_copyFrom_0 : decode cX5_copyFrom 0 = .ok (.aload_n 0, 1) := by decide +kernel
theorem dX5_copyFrom_1 : decode cX5_copyFrom 1 = .ok (.iconst 0, 1) := by decide +kernel
theorem dX5_copyFrom_2 : decode cX5_copyFrom 2 = .ok (.putfield 9, 3) := by decide +kernel
theorem dX5_copyFrom_5 : decode cX5_copyFrom 5 = .ok (.aload_n 0, 1) := by decide +kernel
theorem dX5_copyFrom_6 : decode cX5_copyFrom 6 = .ok (.aload_n 1, 1) := by decide +kernel
theorem dX5_copyFrom_7 : decode cX5_copyFrom 7 = .ok (.invokevirtual 22, 3) := by decide +kernel
theorem dX5_copyFrom_10 : decode cX5_copyFrom 10 = .ok (.return_, 1) := by decide +kernel
theorem dX5_append_0 : decode cX5_append 0 = .ok (.iconst 0, 1) := by decide +kernel
theorem dX5_append_1 : decode cX5_append 1 = .ok (.istore_n 2, 1) := by decide +kernel
theorem dX5_append_2 : decode cX5_append 2 = .ok (.iload_n 2, 1) := by decide +kernel
theorem dX5_append_3 : decode cX5_append 3 = .ok (.aload_n 1, 1) := by decide +kernel
theorem dX5_append_4 : decode cX5_append 4 = .ok (.getfield 9, 3) := by decide +kernel
theorem dX5_append_7 : decode cX5_append 7 = .ok (.if_icmp .ge 45, 3) := by decide +kernel
theorem dX5_append_10 : decode cX5_append 10 = .ok (.aload_n 0, 1) := by decide +kernel
theorem dX5_append_11 : decode cX5_append 11 = .ok (.getfield 9, 3) := by decide +kernel
theorem dX5_append_14 : decode cX5_append 14 = .ok (.iconst 4, 1) := by decide +kernel
theorem dX5_append_15 : decode cX5_append 15 = .ok (.if_icmp .ge 37, 3) := by decide +kernel
theorem dX5_append_18 : decode cX5_append 18 = .ok (.aload_n 0, 1) := by decide +kernel
theorem dX5_append_19 : decode cX5_append 19 = .ok (.getfield 17, 3) := by decide +kernel
theorem dX5_append_22 : decode cX5_append 22 = .ok (.aload_n 0, 1) := by decide +kernel
theorem dX5_append_23 : decode cX5_append 23 = .ok (.getfield 9, 3) := by decide +kernel
theorem dX5_append_26 : decode cX5_append 26 = .ok (.aaload, 1) := by decide +kernel
theorem dX5_append_27 : decode cX5_append 27 = .ok (.aload_n 1, 1) := by decide +kernel
theorem dX5_append_28 : decode cX5_append 28 = .ok (.getfield 17, 3) := by decide +kernel
theorem dX5_append_31 : decode cX5_append 31 = .ok (.iload_n 2, 1) := by decide +kernel
theorem dX5_append_32 : decode cX5_append 32 = .ok (.aaload, 1) := by decide +kernel
theorem dX5_append_33 : decode cX5_append 33 = .ok (.invokevirtual 26, 3) := by decide +kernel
theorem dX5_append_36 : decode cX5_append 36 = .ok (.aload_n 0, 1) := by decide +kernel
theorem dX5_append_37 : decode cX5_append 37 = .ok (.dup, 1) := by decide +kernel
theorem dX5_append_38 : decode cX5_append 38 = .ok (.getfield 9, 3) := by decide +kernel
theorem dX5_append_41 : decode cX5_append 41 = .ok (.iconst 1, 1) := by decide +kernel
theorem dX5_append_42 : decode cX5_append 42 = .ok (.iadd, 1) := by decide +kernel
theorem dX5_append_43 : decode cX5_append 43 = .ok (.putfield 9, 3) := by decide +kernel
theorem dX5_append_46 : decode cX5_append 46 = .ok (.iinc 2 1, 3) := by decide +kernel
theorem dX5_append_49 : decode cX5_append 49 = .ok (.goto (-47), 3) := by decide +kernel
theorem dX5_append_52 : decode cX5_append 52 = .ok (.return_, 1) := by decide +kernel
theorem dX5_isFull_0 : decode cX5_isFull 0 = .ok (.aload_n 0, 1) := by decide +kernel
theorem dX5_isFull_1 : decode cX5_isFull 1 = .ok (.getfield 9, 3) := by decide +kernel
theorem dX5_isFull_4 : decode cX5_isFull 4 = .ok (.iconst 4, 1) := by decide +kernel
theorem dX5_isFull_5 : decode cX5_isFull 5 = .ok (.if_icmp .lt 7, 3) := by decide +kernel
theorem dX5_isFull_8 : decode cX5_isFull 8 = .ok (.iconst 1, 1) := by decide +kernel
theorem dX5_isFull_9 : decode cX5_isFull 9 = .ok (.goto 4, 3) := by decide +kernel
theorem dX5_isFull_12 : decode cX5_isFull 12 = .ok (.iconst 0, 1) := by decide +kernel
theorem dX5_isFull_13 : decode cX5_isFull 13 = .ok (.ireturn, 1) := by decide +kernel
theorem dX5_addPath_0 : decode cX5_addPath 0 = .ok (.aload_n 0, 1) := by decide +kernel
theorem dX5_addPath_1 : decode cX5_addPath 1 = .ok (.getfield 17, 3) := by decide +kernel
theorem dX5_addPath_4 : decode cX5_addPath 4 = .ok (.aload_n 0, 1) := by decide +kernel
theorem dX5_addPath_5 : decode cX5_addPath 5 = .ok (.getfield 9, 3) := by decide +kernel
theorem dX5_addPath_8 : decode cX5_addPath 8 = .ok (.iconst 3, 1) := by decide +kernel
theorem dX5_addPath_9 : decode cX5_addPath 9 = .ok (.invokestatic 30, 3) := by decide +kernel
theorem dX5_addPath_12 : decode cX5_addPath 12 = .ok (.aaload, 1) := by decide +kernel
theorem dX5_addPath_13 : decode cX5_addPath 13 = .ok (.astore_n 1, 1) := by decide +kernel
theorem dX5_addPath_14 : decode cX5_addPath 14 = .ok (.aload_n 1, 1) := by decide +kernel
theorem dX5_addPath_15 : decode cX5_addPath 15 = .ok (.invokevirtual 36, 3) := by decide +kernel
theorem dX5_addPath_18 : decode cX5_addPath 18 = .ok (.aload_n 0, 1) := by decide +kernel
theorem dX5_addPath_19 : decode cX5_addPath 19 = .ok (.aload_n 0, 1) := by decide +kernel
theorem dX5_addPath_20 : decode cX5_addPath 20 = .ok (.getfield 9, 3) := by decide +kernel
theorem dX5_addPath_23 : decode cX5_addPath 23 = .ok (.iconst 1, 1) := by decide +kernel
theorem dX5_addPath_24 : decode cX5_addPath 24 = .ok (.iadd, 1) := by decide +kernel
theorem dX5_addPath_25 : decode cX5_addPath 25 = .ok (.iconst 4, 1) := by decide +kernel
theorem dX5_addPath_26 : decode cX5_addPath 26 = .ok (.invokestatic 30, 3) := by decide +kernel
theorem dX5_addPath_29 : decode cX5_addPath 29 = .ok (.putfield 9, 3) := by decide +kernel
theorem dX5_addPath_32 : decode cX5_addPath 32 = .ok (.aload_n 1, 1) := by decide +kernel
theorem dX5_addPath_33 : decode cX5_addPath 33 = .ok (.areturn, 1) := by decide +kernel
theorem dX5_removePath_0 : decode cX5_removePath 0 = .ok (.iload_n 1, 1) := by decide +kernel
theorem dX5_removePath_1 : decode cX5_removePath 1 = .ok (.ifCond .lt 19, 3) := by decide +kernel
theorem dX5_removePath_4 : decode cX5_removePath 4 = .ok (.iload_n 1, 1) := by decide +kernel
theorem dX5_removePath_5 : decode cX5_removePath 5 = .ok (.aload_n 0, 1) := by decide +kernel
theorem dX5_removePath_6 : decode cX5_removePath 6 = .ok (.getfield 9, 3) := by decide +kernel
theorem dX5_removePath_9 : decode cX5_removePath 9 = .ok (.if_icmp .ge 11, 3) := by decide +kernel
theorem dX5_removePath_12 : decode cX5_removePath 12 = .ok (.aload_n 0, 1) := by decide +kernel
theorem dX5_removePath_13 : decode cX5_removePath 13 = .ok (.getfield 9, 3) := by decide +kernel
theorem dX5_removePath_16 : decode cX5_removePath 16 = .ok (.iconst 4, 1) := by decide +kernel
theorem dX5_removePath_17 : decode cX5_removePath 17 = .ok (.if_icmp .le 4, 3) := by decide +kernel
theorem dX5_removePath_20 : decode cX5_removePath 20 = .ok (.return_, 1) := by decide +kernel
theorem dX5_removePath_21 : decode cX5_removePath 21 = .ok (.aload_n 0, 1) := by decide +kernel
theorem dX5_removePath_22 : decode cX5_removePath 22 = .ok (.getfield 17, 3) := by decide +kernel
theorem dX5_removePath_25 : decode cX5_removePath 25 = .ok (.iload_n 1, 1) := by decide +kernel
theorem dX5_removePath_26 : decode cX5_removePath 26 = .ok (.aaload, 1) := by decide +kernel
theorem dX5_removePath_27 : decode cX5_removePath 27 = .ok (.astore_n 2, 1) := by decide +kernel
theorem dX5_removePath_28 : decode cX5_removePath 28 = .ok (.iload_n 1, 1) := by decide +kernel
theorem dX5_removePath_29 : decode cX5_removePath 29 = .ok (.istore_n 3, 1) := by decide +kernel
theorem dX5_removePath_30 : decode cX5_removePath 30 = .ok (.iload_n 3, 1) := by decide +kernel
theorem dX5_removePath_31 : decode cX5_removePath 31 = .ok (.iconst 1, 1) := by decide +kernel
theorem dX5_removePath_32 : decode cX5_removePath 32 = .ok (.iadd, 1) := by decide +kernel
theorem dX5_removePath_33 : decode cX5_removePath 33 = .ok (.aload_n 0, 1) := by decide +kernel
theorem dX5_removePath_34 : decode cX5_removePath 34 = .ok (.getfield 9, 3) := by decide +kernel
theorem dX5_removePath_37 : decode cX5_removePath 37 = .ok (.if_icmp .ge 23, 3) := by decide +kernel
theorem dX5_removePath_40 : decode cX5_removePath 40 = .ok (.aload_n 0, 1) := by decide +kernel
theorem dX5_removePath_41 : decode cX5_removePath 41 = .ok (.getfield 17, 3) := by decide +kernel
theorem dX5_removePath_44 : decode cX5_removePath 44 = .ok (.iload_n 3, 1) := by decide +kernel
theorem dX5_removePath_45 : decode cX5_removePath 45 = .ok (.aload_n 0, 1) := by decide +kernel
theorem dX5_removePath_46 : decode cX5_removePath 46 = .ok (.getfield 17, 3) := by decide +kernel
theorem dX5_removePath_49 : decode cX5_removePath 49 = .ok (.iload_n 3, 1) := by decide +kernel
theorem dX5_removePath_50 : decode cX5_removePath 50 = .ok (.iconst 1, 1) := by decide +kernel
theorem dX5_removePath_51 : decode cX5_removePath 51 = .ok (.iadd, 1) := by decide +kernel
theorem dX5_removePath_52 : decode cX5_removePath 52 = .ok (.aaload, 1) := by decide +kernel
theorem dX5_removePath_53 : decode cX5_removePath 53 = .ok (.aastore, 1) := by decide +kernel
theorem dX5_removePath_54 : decode cX5_removePath 54 = .ok (.iinc 3 1, 3) := by decide +kernel
theorem dX5_removePath_57 : decode cX5_removePath 57 = .ok (.goto (-27), 3) := by decide +kernel
theorem dX5_removePath_60 : decode cX5_removePath 60 = .ok (.aload_n 0, 1) := by decide +kernel
theorem dX5_removePath_61 : decode cX5_removePath 61 = .ok (.getfield 17, 3) := by decide +kernel
theorem dX5_removePath_64 : decode cX5_removePath 64 = .ok (.aload_n 0, 1) := by decide +kernel
theorem dX5_removePath_65 : decode cX5_removePath 65 = .ok (.getfield 9, 3) := by decide +kernel
theorem dX5_removePath_68 : decode cX5_removePath 68 = .ok (.iconst 1, 1) := by decide +kernel
theorem dX5_removePath_69 : decode cX5_removePath 69 = .ok (.isub, 1) := by decide +kernel
theorem dX5_removePath_70 : decode cX5_removePath 70 = .ok (.aload_n 2, 1) := by decide +kernel
theorem dX5_removePath_71 : decode cX5_removePath 71 = .ok (.aastore, 1) := by decide +kernel
theorem dX5_removePath_72 : decode cX5_removePath 72 = .ok (.aload_n 0, 1) := by decide +kernel
theorem dX5_removePath_73 : decode cX5_removePath 73 = .ok (.dup, 1) := by decide +kernel
theorem dX5_removePath_74 : decode cX5_removePath 74 = .ok (.getfield 9, 3) := by decide +kernel
theorem dX5_removePath_77 : decode cX5_removePath 77 = .ok (.iconst 1, 1) := by decide +kernel
theorem dX5_removePath_78 : decode cX5_removePath 78 = .ok (.isub, 1) := by decide +kernel
theorem dX5_removePath_79 : decode cX5_removePath 79 = .ok (.putfield 9, 3) := by decide +kernel
theorem dX5_removePath_82 : decode cX5_removePath 82 = .ok (.return_, 1) := by decide +kernel
theorem dX5_isRepeated_0 : decode cX5_isRepeated 0 = .ok (.iconst 0, 1) := by decide +kernel
theorem dX5_isRepeated_1 : decode cX5_isRepeated 1 = .ok (.istore_n 2, 1) := by decide +kernel
theorem dX5_isRepeated_2 : decode cX5_isRepeated 2 = .ok (.iload_n 2, 1) := by decide +kernel
theorem dX5_isRepeated_3 : decode cX5_isRepeated 3 = .ok (.iload_n 1, 1) := by decide +kernel
theorem dX5_isRepeated_4 : decode cX5_isRepeated 4 = .ok (.if_icmp .ge 29, 3) := by decide +kernel
theorem dX5_isRepeated_7 : decode cX5_isRepeated 7 = .ok (.aload_n 0, 1) := by decide +kernel
theorem dX5_isRepeated_8 : decode cX5_isRepeated 8 = .ok (.getfield 17, 3) := by decide +kernel
theorem dX5_isRepeated_11 : decode cX5_isRepeated 11 = .ok (.iload_n 2, 1) := by decide +kernel
theorem dX5_isRepeated_12 : decode cX5_isRepeated 12 = .ok (.aaload, 1) := by decide +kernel
theorem dX5_isRepeated_13 : decode cX5_isRepeated 13 = .ok (.aload_n 0, 1) := by decide +kernel
theorem dX5_isRepeated_14 : decode cX5_isRepeated 14 = .ok (.getfield 17, 3) := by decide +kernel
theorem dX5_isRepeated_17 : decode cX5_isRepeated 17 = .ok (.iload_n 1, 1) := by decide +kernel
theorem dX5_isRepeated_18 : decode cX5_isRepeated 18 = .ok (.aaload, 1) := by decide +kernel
theorem dX5_isRepeated_19 : decode cX5_isRepeated 19 = .ok (.invokevirtual 39, 3) := by decide +kernel
theorem dX5_isRepeated_22 : decode cX5_isRepeated 22 = .ok (.ifCond .eq 5, 3) := by decide +kernel
theorem dX5_isRepeated_25 : decode cX5_isRepeated 25 = .ok (.iconst 1, 1) := by decide +kernel
theorem dX5_isRepeated_26 : decode cX5_isRepeated 26 = .ok (.ireturn, 1) := by decide +kernel
theorem dX5_isRepeated_27 : decode cX5_isRepeated 27 = .ok (.iinc 2 1, 3) := by decide +kernel
theorem dX5_isRepeated_30 : decode cX5_isRepeated 30 = .ok (.goto (-28), 3) := by decide +kernel
theorem dX5_isRepeated_33 : decode cX5_isRepeated 33 = .ok (.iconst 0, 1) := by decide +kernel
theorem dX5_isRepeated_34 : decode cX5_isRepeated 34 = .ok (.ireturn, 1) := by decide +kernel
theorem dX5_stepTotal_0 : decode cX5_stepTotal 0 = .ok (.iconst 0, 1) := by decide +kernel
theorem dX5_stepTotal_1 : decode cX5_stepTotal 1 = .ok (.istore_n 1, 1) := by decide +kernel
theorem dX5_stepTotal_2 : decode cX5_stepTotal 2 = .ok (.iconst 0, 1) := by decide +kernel
theorem dX5_stepTotal_3 : decode cX5_stepTotal 3 = .ok (.istore_n 2, 1) := by decide +kernel
theorem dX5_stepTotal_4 : decode cX5_stepTotal 4 = .ok (.iload_n 2, 1) := by decide +kernel
theorem dX5_stepTotal_5 : decode cX5_stepTotal 5 = .ok (.aload_n 0, 1) := by decide +kernel
theorem dX5_stepTotal_6 : decode cX5_stepTotal 6 = .ok (.getfield 9, 3) := by decide +kernel
theorem dX5_stepTotal_9 : decode cX5_stepTotal 9 = .ok (.if_icmp .ge 21, 3) := by decide +kernel
theorem dX5_stepTotal_12 : decode cX5_stepTotal 12 = .ok (.iload_n 1, 1) := by decide +kernel
theorem dX5_stepTotal_13 : decode cX5_stepTotal 13 = .ok (.aload_n 0, 1) := by decide +kernel
theorem dX5_stepTotal_14 : decode cX5_stepTotal 14 = .ok (.getfield 17, 3) := by decide +kernel
theorem dX5_stepTotal_17 : decode cX5_stepTotal 17 = .ok (.iload_n 2, 1) := by decide +kernel
theorem dX5_stepTotal_18 : decode cX5_stepTotal 18 = .ok (.aaload, 1) := by decide +kernel
theorem dX5_stepTotal_19 : decode cX5_stepTotal 19 = .ok (.getfield 43, 3) := by decide +kernel
theorem dX5_stepTotal_22 : decode cX5_stepTotal 22 = .ok (.iadd, 1) := by decide +kernel
theorem dX5_stepTotal_23 : decode cX5_stepTotal 23 = .ok (.istore_n 1, 1) := by decide +kernel
theorem dX5_stepTotal_24 : decode cX5_stepTotal 24 = .ok (.iinc 2 1, 3) := by decide +kernel
theorem dX5_stepTotal_27 : decode cX5_stepTotal 27 = .ok (.goto (-23), 3) := by decide +kernel
theorem dX5_stepTotal_30 : decode cX5_stepTotal 30 = .ok (.iload_n 1, 1) := by decide +kernel
theorem dX5_stepTotal_31 : decode cX5_stepTotal 31 = .ok (.ireturn, 1) := by decide +kernel
theorem dX5_predicateTotal_0 : decode cX5_predicateTotal 0 = .ok (.iconst 0, 1) := by decide +kernel
theorem dX5_predicateTotal_1 : decode cX5_predicateTotal 1 = .ok (.istore_n 1, 1) := by decide +kernel
theorem dX5_predicateTotal_2 : decode cX5_predicateTotal 2 = .ok (.iconst 0, 1) := by decide +kernel
theorem dX5_predicateTotal_3 : decode cX5_predicateTotal 3 = .ok (.istore_n 2, 1) := by decide +kernel
theorem dX5_predicateTotal_4 : decode cX5_predicateTotal 4 = .ok (.iload_n 2, 1) := by decide +kernel
theorem dX5_predicateTotal_5 : decode cX5_predicateTotal 5 = .ok (.aload_n 0, 1) := by decide +kernel
theorem dX5_predicateTotal_6 : decode cX5_predicateTotal 6 = .ok (.getfield 9, 3) := by decide +kernel
theorem dX5_predicateTotal_9 : decode cX5_predicateTotal 9 = .ok (.if_icmp .ge 47, 3) := by decide +kernel
theorem dX5_predicateTotal_12 : decode cX5_predicateTotal 12 = .ok (.iconst 0, 1) := by decide +kernel
theorem dX5_predicateTotal_13 : decode cX5_predicateTotal 13 = .ok (.istore_n 3, 1) := by decide +kernel
theorem dX5_predicateTotal_14 : decode cX5_predicateTotal 14 = .ok (.iload_n 3, 1) := by decide +kernel
theorem dX5_predicateTotal_15 : decode cX5_predicateTotal 15 = .ok (.aload_n 0, 1) := by decide +kernel
theorem dX5_predicateTotal_16 : decode cX5_predicateTotal 16 = .ok (.getfield 17, 3) := by decide +kernel
theorem dX5_predicateTotal_19 : decode cX5_predicateTotal 19 = .ok (.iload_n 2, 1) := by decide +kernel
theorem dX5_predicateTotal_20 : decode cX5_predicateTotal 20 = .ok (.aaload, 1) := by decide +kernel
theorem dX5_predicateTotal_21 : decode cX5_predicateTotal 21 = .ok (.getfield 43, 3) := by decide +kernel
theorem dX5_predicateTotal_24 : decode cX5_predicateTotal 24 = .ok (.if_icmp .ge 26, 3) := by decide +kernel
theorem dX5_predicateTotal_27 : decode cX5_predicateTotal 27 = .ok (.iload_n 1, 1) := by decide +kernel
theorem dX5_predicateTotal_28 : decode cX5_predicateTotal 28 = .ok (.aload_n 0, 1) := by decide +kernel
theorem dX5_predicateTotal_29 : decode cX5_predicateTotal 29 = .ok (.getfield 17, 3) := by decide +kernel
theorem dX5_predicateTotal_32 : decode cX5_predicateTotal 32 = .ok (.iload_n 2, 1) := by decide +kernel
theorem dX5_predicateTotal_33 : decode cX5_predicateTotal 33 = .ok (.aaload, 1) := by decide +kernel
theorem dX5_predicateTotal_34 : decode cX5_predicateTotal 34 = .ok (.getfield 44, 3) := by decide +kernel
theorem dX5_predicateTotal_37 : decode cX5_predicateTotal 37 = .ok (.iload_n 3, 1) := by decide +kernel
theorem dX5_predicateTotal_38 : decode cX5_predicateTotal 38 = .ok (.aaload, 1) := by decide +kernel
theorem dX5_predicateTotal_39 : decode cX5_predicateTotal 39 = .ok (.getfield 48, 3) := by decide +kernel
theorem dX5_predicateTotal_42 : decode cX5_predicateTotal 42 = .ok (.iadd, 1) := by decide +kernel
theorem dX5_predicateTotal_43 : decode cX5_predicateTotal 43 = .ok (.istore_n 1, 1) := by decide +kernel
theorem dX5_predicateTotal_44 : decode cX5_predicateTotal 44 = .ok (.iinc 3 1, 3) := by decide +kernel
theorem dX5_predicateTotal_47 : decode cX5_predicateTotal 47 = .ok (.goto (-33), 3) := by decide +kernel
theorem dX5_predicateTotal_50 : decode cX5_predicateTotal 50 = .ok (.iinc 2 1, 3) := by decide +kernel
theorem dX5_predicateTotal_53 : decode cX5_predicateTotal 53 = .ok (.goto (-49), 3) := by decide +kernel
theorem dX5_predicateTotal_56 : decode cX5_predicateTotal 56 = .ok (.iload_n 1, 1) := by decide +kernel
theorem dX5_predicateTotal_57 : decode cX5_predicateTotal 57 = .ok (.ireturn, 1) := by decide +kernel
theorem dX5_conditionTotal_0 : decode cX5_conditionTotal 0 = .ok (.iconst 0, 1) := by decide +kernel
theorem dX5_conditionTotal_1 : decode cX5_conditionTotal 1 = .ok (.istore_n 1, 1) := by decide +kernel
theorem dX5_conditionTotal_2 : decode cX5_conditionTotal 2 = .ok (.iconst 0, 1) := by decide +kernel
theorem dX5_conditionTotal_3 : decode cX5_conditionTotal 3 = .ok (.istore_n 2, 1) := by decide +kernel
theorem dX5_conditionTotal_4 : decode cX5_conditionTotal 4 = .ok (.iload_n 2, 1) := by decide +kernel
theorem dX5_conditionTotal_5 : decode cX5_conditionTotal 5 = .ok (.aload_n 0, 1) := by decide +kernel
theorem dX5_conditionTotal_6 : decode cX5_conditionTotal 6 = .ok (.getfield 9, 3) := by decide +kernel
theorem dX5_conditionTotal_9 : decode cX5_conditionTotal 9 = .ok (.if_icmp .ge 47, 3) := by decide +kernel
theorem dX5_conditionTotal_12 : decode cX5_conditionTotal 12 = .ok (.iconst 0, 1) := by decide +kernel
theorem dX5_conditionTotal_13 : decode cX5_conditionTotal 13 = .ok (.istore_n 3, 1) := by decide +kernel
theorem dX5_conditionTotal_14 : decode cX5_conditionTotal 14 = .ok (.iload_n 3, 1) := by decide +kernel
theorem dX5_conditionTotal_15 : decode cX5_conditionTotal 15 = .ok (.aload_n 0, 1) := by decide +kernel
theorem dX5_conditionTotal_16 : decode cX5_conditionTotal 16 = .ok (.getfield 17, 3) := by decide +kernel
theorem dX5_conditionTotal_19 : decode cX5_conditionTotal 19 = .ok (.iload_n 2, 1) := by decide +kernel
theorem dX5_conditionTotal_20 : decode cX5_conditionTotal 20 = .ok (.aaload, 1) := by decide +kernel
theorem dX5_conditionTotal_21 : decode cX5_conditionTotal 21 = .ok (.getfield 43, 3) := by decide +kernel
theorem dX5_conditionTotal_24 : decode cX5_conditionTotal 24 = .ok (.if_icmp .ge 26, 3) := by decide +kernel
theorem dX5_conditionTotal_27 : decode cX5_conditionTotal 27 = .ok (.iload_n 1, 1) := by decide +kernel
theorem dX5_conditionTotal_28 : decode cX5_conditionTotal 28 = .ok (.aload_n 0, 1) := by decide +kernel
theorem dX5_conditionTotal_29 : decode cX5_conditionTotal 29 = .ok (.getfield 17, 3) := by decide +kernel
theorem dX5_conditionTotal_32 : decode cX5_conditionTotal 32 = .ok (.iload_n 2, 1) := by decide +kernel
theorem dX5_conditionTotal_33 : decode cX5_conditionTotal 33 = .ok (.aaload, 1) := by decide +kernel
theorem dX5_conditionTotal_34 : decode cX5_conditionTotal 34 = .ok (.getfield 44, 3) := by decide +kernel
theorem dX5_conditionTotal_37 : decode cX5_conditionTotal 37 = .ok (.iload_n 3, 1) := by decide +kernel
theorem dX5_conditionTotal_38 : decode cX5_conditionTotal 38 = .ok (.aaload, 1) := by decide +kernel
theorem dX5_conditionTotal_39 : decode cX5_conditionTotal 39 = .ok (.invokevirtual 53, 3) := by decide +kernel
theorem dX5_conditionTotal_42 : decode cX5_conditionTotal 42 = .ok (.iadd, 1) := by decide +kernel
theorem dX5_conditionTotal_43 : decode cX5_conditionTotal 43 = .ok (.istore_n 1, 1) := by decide +kernel
theorem dX5_conditionTotal_44 : decode cX5_conditionTotal 44 = .ok (.iinc 3 1, 3) := by decide +kernel
theorem dX5_conditionTotal_47 : decode cX5_conditionTotal 47 = .ok (.goto (-33), 3) := by decide +kernel
theorem dX5_conditionTotal_50 : decode cX5_conditionTotal 50 = .ok (.iinc 2 1, 3) := by decide +kernel
theorem dX5_conditionTotal_53 : decode cX5_conditionTotal 53 = .ok (.goto (-49), 3) := by decide +kernel
theorem dX5_conditionTotal_56 : decode cX5_conditionTotal 56 = .ok (.iload_n 1, 1) := by decide +kernel
theorem dX5_conditionTotal_57 : decode cX5_conditionTotal 57 = .ok (.ireturn, 1) := by decide +kernel
theorem dX5_isPositional_0 : decode cX5_isPositional 0 = .ok (.iconst 0, 1) := by decide +kernel
theorem dX5_isPositional_1 : decode cX5_isPositional 1 = .ok (.istore_n 1, 1) := by decide +kernel
theorem dX5_isPositional_2 : decode cX5_isPositional 2 = .ok (.iload_n 1, 1) := by decide +kernel
theorem dX5_isPositional_3 : decode cX5_isPositional 3 = .ok (.aload_n 0, 1) := by decide +kernel
theorem dX5_isPositional_4 : decode cX5_isPositional 4 = .ok (.getfield 9, 3) := by decide +kernel
theorem dX5_isPositional_7 : decode cX5_isPositional 7 = .ok (.if_icmp .ge 49, 3) := by decide +kernel
theorem dX5_isPositional_10 : decode cX5_isPositional 10 = .ok (.iconst 0, 1) := by decide +kernel
theorem dX5_isPositional_11 : decode cX5_isPositional 11 = .ok (.istore_n 2, 1) := by decide +kernel
theorem dX5_isPositional_12 : decode cX5_isPositional 12 = .ok (.iload_n 2, 1) := by decide +kernel
theorem dX5_isPositional_13 : decode cX5_isPositional 13 = .ok (.aload_n 0, 1) := by decide +kernel
theorem dX5_isPositional_14 : decode cX5_isPositional 14 = .ok (.getfield 17, 3) := by decide +kernel
theorem dX5_isPositional_17 : decode cX5_isPositional 17 = .ok (.iload_n 1, 1) := by decide +kernel
theorem dX5_isPositional_18 : decode cX5_isPositional 18 = .ok (.aaload, 1) := by decide +kernel
theorem dX5_isPositional_19 : decode cX5_isPositional 19 = .ok (.getfield 43, 3) := by decide +kernel
theorem dX5_isPositional_22 : decode cX5_isPositional 22 = .ok (.if_icmp .ge 28, 3) := by decide +kernel
theorem dX5_isPositional_25 : decode cX5_isPositional 25 = .ok (.aload_n 0, 1) := by decide +kernel
theorem dX5_isPositional_26 : decode cX5_isPositional 26 = .ok (.getfield 17, 3) := by decide +kernel
theorem dX5_isPositional_29 : decode cX5_isPositional 29 = .ok (.iload_n 1, 1) := by decide +kernel
theorem dX5_isPositional_30 : decode cX5_isPositional 30 = .ok (.aaload, 1) := by decide +kernel
theorem dX5_isPositional_31 : decode cX5_isPositional 31 = .ok (.getfield 44, 3) := by decide +kernel
theorem dX5_isPositional_34 : decode cX5_isPositional 34 = .ok (.iload_n 2, 1) := by decide +kernel
theorem dX5_isPositional_35 : decode cX5_isPositional 35 = .ok (.aaload, 1) := by decide +kernel
theorem dX5_isPositional_36 : decode cX5_isPositional 36 = .ok (.invokevirtual 57, 3) := by decide +kernel
theorem dX5_isPositional_39 : decode cX5_isPositional 39 = .ok (.ifCond .eq 5, 3) := by decide +kernel
theorem dX5_isPositional_42 : decode cX5_isPositional 42 = .ok (.iconst 1, 1) := by decide +kernel
theorem dX5_isPositional_43 : decode cX5_isPositional 43 = .ok (.ireturn, 1) := by decide +kernel
theorem dX5_isPositional_44 : decode cX5_isPositional 44 = .ok (.iinc 2 1, 3) := by decide +kernel
theorem dX5_isPositional_47 : decode cX5_isPositional 47 = .ok (.goto (-35), 3) := by decide +kernel
theorem dX5_isPositional_50 : decode cX5_isPositional 50 = .ok (.iinc 1 1, 3) := by decide +kernel
theorem dX5_isPositional_53 : decode cX5_isPositional 53 = .ok (.goto (-51), 3) := by decide +kernel
theorem dX5_isPositional_56 : decode cX5_isPositional 56 = .ok (.iconst 0, 1) := by decide +kernel
theorem dX5_isPositional_57 : decode cX5_isPositional 57 = .ok (.ireturn, 1) := by decide +kernel
theorem dX5_writeTo_0 : decode cX5_writeTo 0 = .ok (.aload_n 1, 1) := by decide +kernel
theorem dX5_writeTo_1 : decode cX5_writeTo 1 = .ok (.iconst 0, 1) := by decide +kernel
theorem dX5_writeTo_2 : decode cX5_writeTo 2 = .ok (.putfield 61, 3) := by decide +kernel
theorem dX5_writeTo_5 : decode cX5_writeTo 5 = .ok (.iconst 0, 1) := by decide +kernel
theorem dX5_writeTo_6 : decode cX5_writeTo 6 = .ok (.istore_n 2, 1) := by decide +kernel
theorem dX5_writeTo_7 : decode cX5_writeTo 7 = .ok (.iload_n 2, 1) := by decide +kernel
theorem dX5_writeTo_8 : decode cX5_writeTo 8 = .ok (.aload_n 0, 1) := by decide +kernel
theorem dX5_writeTo_9 : decode cX5_writeTo 9 = .ok (.getfield 9, 3) := by decide +kernel
theorem dX5_writeTo_12 : decode cX5_writeTo 12 = .ok (.if_icmp .ge 77, 3) := by decide +kernel
theorem dX5_writeTo_15 : decode cX5_writeTo 15 = .ok (.iload_n 2, 1) := by decide +kernel
theorem dX5_writeTo_16 : decode cX5_writeTo 16 = .ok (.ifCond .le 9, 3) := by decide +kernel
theorem dX5_writeTo_19 : decode cX5_writeTo 19 = .ok (.aload_n 1, 1) := by decide +kernel
theorem dX5_writeTo_20 : decode cX5_writeTo 20 = .ok (.bipush 124, 2) := by decide +kernel
theorem dX5_writeTo_22 : decode cX5_writeTo 22 = .ok (.invokevirtual 64, 3) := by decide +kernel
theorem dX5_writeTo_25 : decode cX5_writeTo 25 = .ok (.iconst 0, 1) := by decide +kernel
theorem dX5_writeTo_26 : decode cX5_writeTo 26 = .ok (.istore_n 3, 1) := by decide +kernel
theorem dX5_writeTo_27 : decode cX5_writeTo 27 = .ok (.iload_n 3, 1) := by decide +kernel
theorem dX5_writeTo_28 : decode cX5_writeTo 28 = .ok (.aload_n 0, 1) := by decide +kernel
theorem dX5_writeTo_29 : decode cX5_writeTo 29 = .ok (.getfield 17, 3) := by decide +kernel
theorem dX5_writeTo_32 : decode cX5_writeTo 32 = .ok (.iload_n 2, 1) := by decide +kernel
theorem dX5_writeTo_33 : decode cX5_writeTo 33 = .ok (.aaload, 1) := by decide +kernel
theorem dX5_writeTo_34 : decode cX5_writeTo 34 = .ok (.getfield 43, 3) := by decide +kernel
theorem dX5_writeTo_37 : decode cX5_writeTo 37 = .ok (.if_icmp .ge 46, 3) := by decide +kernel
theorem dX5_writeTo_40 : decode cX5_writeTo 40 = .ok (.iload_n 3, 1) := by decide +kernel
theorem dX5_writeTo_41 : decode cX5_writeTo 41 = .ok (.ifCond .gt 15, 3) := by decide +kernel
theorem dX5_writeTo_44 : decode cX5_writeTo 44 = .ok (.aload_n 0, 1) := by decide +kernel
theorem dX5_writeTo_45 : decode cX5_writeTo 45 = .ok (.getfield 17, 3) := by decide +kernel
theorem dX5_writeTo_48 : decode cX5_writeTo 48 = .ok (.iload_n 2, 1) := by decide +kernel
theorem dX5_writeTo_49 : decode cX5_writeTo 49 = .ok (.aaload, 1) := by decide +kernel
theorem dX5_writeTo_50 : decode cX5_writeTo 50 = .ok (.getfield 68, 3) := by decide +kernel
theorem dX5_writeTo_53 : decode cX5_writeTo 53 = .ok (.ifCond .eq 9, 3) := by decide +kernel
theorem dX5_writeTo_56 : decode cX5_writeTo 56 = .ok (.aload_n 1, 1) := by decide +kernel
theorem dX5_writeTo_57 : decode cX5_writeTo 57 = .ok (.bipush 47, 2) := by decide +kernel
theorem dX5_writeTo_59 : decode cX5_writeTo 59 = .ok (.invokevirtual 64, 3) := by decide +kernel
theorem dX5_writeTo_62 : decode cX5_writeTo 62 = .ok (.aload_n 0, 1) := by decide +kernel
theorem dX5_writeTo_63 : decode cX5_writeTo 63 = .ok (.getfield 17, 3) := by decide +kernel
theorem dX5_writeTo_66 : decode cX5_writeTo 66 = .ok (.iload_n 2, 1) := by decide +kernel
theorem dX5_writeTo_67 : decode cX5_writeTo 67 = .ok (.aaload, 1) := by decide +kernel
theorem dX5_writeTo_68 : decode cX5_writeTo 68 = .ok (.getfield 44, 3) := by decide +kernel
theorem dX5_writeTo_71 : decode cX5_writeTo 71 = .ok (.iload_n 3, 1) := by decide +kernel
theorem dX5_writeTo_72 : decode cX5_writeTo 72 = .ok (.aaload, 1) := by decide +kernel
theorem dX5_writeTo_73 : decode cX5_writeTo 73 = .ok (.aload_n 1, 1) := by decide +kernel
theorem dX5_writeTo_74 : decode cX5_writeTo 74 = .ok (.invokevirtual 72, 3) := by decide +kernel
theorem dX5_writeTo_77 : decode cX5_writeTo 77 = .ok (.iinc 3 1, 3) := by decide +kernel
theorem dX5_writeTo_80 : decode cX5_writeTo 80 = .ok (.goto (-53), 3) := by decide +kernel
theorem dX5_writeTo_83 : decode cX5_writeTo 83 = .ok (.iinc 2 1, 3) := by decide +kernel
theorem dX5_writeTo_86 : decode cX5_writeTo 86 = .ok (.goto (-79), 3) := by decide +kernel
theorem dX5_writeTo_89 : decode cX5_writeTo 89 = .ok (.return_, 1) := by decide +kernel
theorem dX6_init_0 : decode cX6_init 0 = .ok (.aload_n 0, 1) := by decide +kernel
theorem dX6_init_1 : decode cX6_init 1 = .ok (.invokespecial 3, 3) := by decide +kernel
theorem dX6_init_4 : decode cX6_init 4 = .ok (.aload_n 0, 1) := by decide +kernel
theorem dX6_init_5 : decode cX6_init 5 = .ok (.bipush 10, 2) := by decide +kernel
theorem dX6_init_7 : decode cX6_init 7 = .ok (.newarray .int, 2) := by decide +kernel
theorem dX6_init_9 : decode cX6_init 9 = .ok (.putfield 9, 3) := by decide +kernel
theorem dX6_init_12 : decode cX6_init 12 = .ok (.return_, 1) := by decide +kernel
theorem dX6_run_0 : decode cX6_run 0 = .ok (.aload_n 0, 1) := by decide +kernel
theorem dX6_run_1 : decode cX6_run 1 = .ok (.getfield 9, 3) := by decide +kernel
theorem dX6_run_4 : decode cX6_run 4 = .ok (.iconst 0, 1) := by decide +kernel
theorem dX6_run_5 : decode cX6_run 5 = .ok (.invokestatic 15, 3) := by decide +kernel
theorem dX6_run_8 : decode cX6_run 8 = .ok (.iconst 0, 1) := by decide +kernel
theorem dX6_run_9 : decode cX6_run 9 = .ok (.istore_n 2, 1) := by decide +kernel
theorem dX6_run_10 : decode cX6_run 10 = .ok (.iload_n 2, 1) := by decide +kernel
theorem dX6_run_11 : decode cX6_run 11 = .ok (.aload_n 1, 1) := by decide +kernel
theorem dX6_run_12 : decode cX6_run 12 = .ok (.getfield 21, 3) := by decide +kernel
theorem dX6_run_15 : decode cX6_run 15 = .ok (.if_icmp .ge 66, 3) := by decide +kernel
theorem dX6_run_18 : decode cX6_run 18 = .ok (.iconst 1, 1) := by decide +kernel
theorem dX6_run_19 : decode cX6_run 19 = .ok (.istore_n 3, 1) := by decide +kernel
theorem dX6_run_20 : decode cX6_run 20 = .ok (.iconst 0, 1) := by decide +kernel
theorem dX6_run_21 : decode cX6_run 21 = .ok (.istore 4, 2) := by decide +kernel
theorem dX6_run_23 : decode cX6_run 23 = .ok (.iload 4, 2) := by decide +kernel
theorem dX6_run_25 : decode cX6_run 25 = .ok (.sipush 1000, 3) := by decide +kernel
theorem dX6_run_28 : decode cX6_run 28 = .ok (.if_icmp .ge 47, 3) := by decide +kernel
theorem dX6_run_31 : decode cX6_run 31 = .ok (.iload_n 3, 1) := by decide +kernel
theorem dX6_run_32 : decode cX6_run 32 = .ok (.ifCond .eq 43, 3) := by decide +kernel
theorem dX6_run_35 : decode cX6_run 35 = .ok (.aload_n 0, 1) := by decide +kernel
theorem dX6_run_36 : decode cX6_run 36 = .ok (.aload_n 1, 1) := by decide +kernel
theorem dX6_run_37 : decode cX6_run 37 = .ok (.getfield 27, 3) := by decide +kernel
theorem dX6_run_40 : decode cX6_run 40 = .ok (.iload_n 2, 1) := by decide +kernel
theorem dX6_run_41 : decode cX6_run 41 = .ok (.aaload, 1) := by decide +kernel
theorem dX6_run_42 : decode cX6_run 42 = .ok (.invokevirtual 31, 3) := by decide +kernel
theorem dX6_run_45 : decode cX6_run 45 = .ok (.istore 5, 2) := by decide +kernel
theorem dX6_run_47 : decode cX6_run 47 = .ok (.aload_n 0, 1) := by decide +kernel
theorem dX6_run_48 : decode cX6_run 48 = .ok (.getfield 9, 3) := by decide +kernel
theorem dX6_run_51 : decode cX6_run 51 = .ok (.iload 5, 2) := by decide +kernel
theorem dX6_run_53 : decode cX6_run 53 = .ok (.dup2, 1) := by decide +kernel
theorem dX6_run_54 : decode cX6_run 54 = .ok (.iaload, 1) := by decide +kernel
theorem dX6_run_55 : decode cX6_run 55 = .ok (.iconst 1, 1) := by decide +kernel
theorem dX6_run_56 : decode cX6_run 56 = .ok (.iadd, 1) := by decide +kernel
theorem dX6_run_57 : decode cX6_run 57 = .ok (.iastore, 1) := by decide +kernel
theorem dX6_run_58 : decode cX6_run 58 = .ok (.iload 5, 2) := by decide +kernel
theorem dX6_run_60 : decode cX6_run 60 = .ok (.ifCond .le 7, 3) := by decide +kernel
theorem dX6_run_63 : decode cX6_run 63 = .ok (.iconst 1, 1) := by decide +kernel
theorem dX6_run_64 : decode cX6_run 64 = .ok (.goto 4, 3) := by decide +kernel
theorem dX6_run_67 : decode cX6_run 67 = .ok (.iconst 0, 1) := by decide +kernel
theorem dX6_run_68 : decode cX6_run 68 = .ok (.istore_n 3, 1) := by decide +kernel
theorem dX6_run_69 : decode cX6_run 69 = .ok (.iinc 4 1, 3) := by decide +kernel
theorem dX6_run_72 : decode cX6_run 72 = .ok (.goto (-49), 3) := by decide +kernel
theorem dX6_run_75 : decode cX6_run 75 = .ok (.iinc 2 1, 3) := by decide +kernel
theorem dX6_run_78 : decode cX6_run 78 = .ok (.goto (-68), 3) := by decide +kernel
theorem dX6_run_81 : decode cX6_run 81 = .ok (.aload_n 1, 1) := by decide +kernel
theorem dX6_run_82 : decode cX6_run 82 = .ok (.getfield 21, 3) := by decide +kernel
theorem dX6_run_85 : decode cX6_run 85 = .ok (.iconst 1, 1) := by decide +kernel
theorem dX6_run_86 : decode cX6_run 86 = .ok (.isub, 1) := by decide +kernel
theorem dX6_run_87 : decode cX6_run 87 = .ok (.istore_n 2, 1) := by decide +kernel
theorem dX6_run_88 : decode cX6_run 88 = .ok (.iload_n 2, 1) := by decide +kernel
theorem dX6_run_89 : decode cX6_run 89 = .ok (.ifCond .le 33, 3) := by decide +kernel
theorem dX6_run_92 : decode cX6_run 92 = .ok (.aload_n 1, 1) := by decide +kernel
theorem dX6_run_93 : decode cX6_run 93 = .ok (.iload_n 2, 1) := by decide +kernel
theorem dX6_run_94 : decode cX6_run 94 = .ok (.invokevirtual 35, 3) := by decide +kernel
theorem dX6_run_97 : decode cX6_run 97 = .ok (.ifCond .eq 19, 3) := by decide +kernel
theorem dX6_run_100 : decode cX6_run 100 = .ok (.aload_n 1, 1) := by decide +kernel
theorem dX6_run_101 : decode cX6_run 101 = .ok (.iload_n 2, 1) := by decide +kernel
theorem dX6_run_102 : decode cX6_run 102 = .ok (.invokevirtual 39, 3) := by decide +kernel
theorem dX6_run_105 : decode cX6_run 105 = .ok (.aload_n 0, 1) := by decide +kernel
theorem dX6_run_106 : decode cX6_run 106 = .ok (.getfield 9, 3) := by decide +kernel
theorem dX6_run_109 : decode cX6_run 109 = .ok (.bipush 9, 2) := by decide +kernel
theorem dX6_run_111 : decode cX6_run 111 = .ok (.dup2, 1) := by decide +kernel
theorem dX6_run_112 : decode cX6_run 112 = .ok (.iaload, 1) := by decide +kernel
theorem dX6_run_113 : decode cX6_run 113 = .ok (.iconst 1, 1) := by decide +kernel
theorem dX6_run_114 : decode cX6_run 114 = .ok (.iadd, 1) := by decide +kernel
theorem dX6_run_115 : decode cX6_run 115 = .ok (.iastore, 1) := by decide +kernel
theorem dX6_run_116 : decode cX6_run 116 = .ok (.iinc 2 (-1), 3) := by decide +kernel
theorem dX6_run_119 : decode cX6_run 119 = .ok (.goto (-31), 3) := by decide +kernel
theorem dX6_run_122 : decode cX6_run 122 = .ok (.return_, 1) := by decide +kernel
theorem dX6_total_0 : decode cX6_total 0 = .ok (.iconst 0, 1) := by decide +kernel
theorem dX6_total_1 : decode cX6_total 1 = .ok (.istore_n 1, 1) := by decide +kernel
theorem dX6_total_2 : decode cX6_total 2 = .ok (.iconst 1, 1) := by decide +kernel
theorem dX6_total_3 : decode cX6_total 3 = .ok (.istore_n 2, 1) := by decide +kernel
theorem dX6_total_4 : decode cX6_total 4 = .ok (.iload_n 2, 1) := by decide +kernel
theorem dX6_total_5 : decode cX6_total 5 = .ok (.bipush 9, 2) := by decide +kernel
theorem dX6_total_7 : decode cX6_total 7 = .ok (.if_icmp .gt 18, 3) := by decide +kernel
theorem dX6_total_10 : decode cX6_total 10 = .ok (.iload_n 1, 1) := by decide +kernel
theorem dX6_total_11 : decode cX6_total 11 = .ok (.aload_n 0, 1) := by decide +kernel
theorem dX6_total_12 : decode cX6_total 12 = .ok (.getfield 9, 3) := by decide +kernel
theorem dX6_total_15 : decode cX6_total 15 = .ok (.iload_n 2, 1) := by decide +kernel
theorem dX6_total_16 : decode cX6_total 16 = .ok (.iaload, 1) := by decide +kernel
theorem dX6_total_17 : decode cX6_total 17 = .ok (.iadd, 1) := by decide +kernel
theorem dX6_total_18 : decode cX6_total 18 = .ok (.istore_n 1, 1) := by decide +kernel
theorem dX6_total_19 : decode cX6_total 19 = .ok (.iinc 2 1, 3) := by decide +kernel
theorem dX6_total_22 : decode cX6_total 22 = .ok (.goto (-18), 3) := by decide +kernel
theorem dX6_total_25 : decode cX6_total 25 = .ok (.iload_n 1, 1) := by decide +kernel
theorem dX6_total_26 : decode cX6_total 26 = .ok (.ireturn, 1) := by decide +kernel
theorem dX6_useFirstRule_0 : decode cX6_useFirstRule 0 = .ok (.aload_n 0, 1) := by decide +kernel
theorem dX6_useFirstRule_1 : decode cX6_useFirstRule 1 = .ok (.aload_n 1, 1) := by decide +kernel
theorem dX6_useFirstRule_2 : decode cX6_useFirstRule 2 = .ok (.invokevirtual 43, 3) := by decide +kernel
theorem dX6_useFirstRule_5 : decode cX6_useFirstRule 5 = .ok (.ifCond .eq 5, 3) := by decide +kernel
theorem dX6_useFirstRule_8 : decode cX6_useFirstRule 8 = .ok (.iconst 1, 1) := by decide +kernel
theorem dX6_useFirstRule_9 : decode cX6_useFirstRule 9 = .ok (.ireturn, 1) := by decide +kernel
theorem dX6_useFirstRule_10 : decode cX6_useFirstRule 10 = .ok (.aload_n 0, 1) := by decide +kernel
theorem dX6_useFirstRule_11 : decode cX6_useFirstRule 11 = .ok (.aload_n 1, 1) := by decide +kernel
theorem dX6_useFirstRule_12 : decode cX6_useFirstRule 12 = .ok (.invokevirtual 47, 3) := by decide +kernel
theorem dX6_useFirstRule_15 : decode cX6_useFirstRule 15 = .ok (.ifCond .eq 5, 3) := by decide +kernel
theorem dX6_useFirstRule_18 : decode cX6_useFirstRule 18 = .ok (.iconst 2, 1) := by decide +kernel
theorem dX6_useFirstRule_19 : decode cX6_useFirstRule 19 = .ok (.ireturn, 1) := by decide +kernel
theorem dX6_useFirstRule_20 : decode cX6_useFirstRule 20 = .ok (.aload_n 0, 1) := by decide +kernel
theorem dX6_useFirstRule_21 : decode cX6_useFirstRule 21 = .ok (.aload_n 1, 1) := by decide +kernel
theorem dX6_useFirstRule_22 : decode cX6_useFirstRule 22 = .ok (.invokevirtual 50, 3) := by decide +kernel
theorem dX6_useFirstRule_25 : decode cX6_useFirstRule 25 = .ok (.ifCond .eq 5, 3) := by decide +kernel
theorem dX6_useFirstRule_28 : decode cX6_useFirstRule 28 = .ok (.iconst 3, 1) := by decide +kernel
theorem dX6_useFirstRule_29 : decode cX6_useFirstRule 29 = .ok (.ireturn, 1) := by decide +kernel
theorem dX6_useFirstRule_30 : decode cX6_useFirstRule 30 = .ok (.aload_n 0, 1) := by decide +kernel
theorem dX6_useFirstRule_31 : decode cX6_useFirstRule 31 = .ok (.aload_n 1, 1) := by decide +kernel
theorem dX6_useFirstRule_32 : decode cX6_useFirstRule 32 = .ok (.invokevirtual 53, 3) := by decide +kernel
theorem dX6_useFirstRule_35 : decode cX6_useFirstRule 35 = .ok (.ifCond .eq 5, 3) := by decide +kernel
theorem dX6_useFirstRule_38 : decode cX6_useFirstRule 38 = .ok (.iconst 4, 1) := by decide +kernel
theorem dX6_useFirstRule_39 : decode cX6_useFirstRule 39 = .ok (.ireturn, 1) := by decide +kernel
theorem dX6_useFirstRule_40 : decode cX6_useFirstRule 40 = .ok (.aload_n 0, 1) := by decide +kernel
theorem dX6_useFirstRule_41 : decode cX6_useFirstRule 41 = .ok (.aload_n 1, 1) := by decide +kernel
theorem dX6_useFirstRule_42 : decode cX6_useFirstRule 42 = .ok (.invokevirtual 56, 3) := by decide +kernel
theorem dX6_useFirstRule_45 : decode cX6_useFirstRule 45 = .ok (.ifCond .eq 5, 3) := by decide +kernel
theorem dX6_useFirstRule_48 : decode cX6_useFirstRule 48 = .ok (.iconst 5, 1) := by decide +kernel
theorem dX6_useFirstRule_49 : decode cX6_useFirstRule 49 = .ok (.ireturn, 1) := by decide +kernel
theorem dX6_useFirstRule_50 : decode cX6_useFirstRule 50 = .ok (.aload_n 0, 1) := by decide +kernel
theorem dX6_useFirstRule_51 : decode cX6_useFirstRule 51 = .ok (.aload_n 1, 1) := by decide +kernel
theorem dX6_useFirstRule_52 : decode cX6_useFirstRule 52 = .ok (.invokevirtual 59, 3) := by decide +kernel
theorem dX6_useFirstRule_55 : decode cX6_useFirstRule 55 = .ok (.ireturn, 1) := by decide +kernel
theorem dX6_useFirstPredicateRule_0 : decode cX6_useFirstPredicateRule 0 = .ok (.iconst 0, 1) := by decide +kernel
theorem dX6_useFirstPredicateRule_1 : decode cX6_useFirstPredicateRule 1 = .ok (.istore_n 2, 1) := by decide +kernel
theorem dX6_useFirstPredicateRule_2 : decode cX6_useFirstPredicateRule 2 = .ok (.iload_n 2, 1) := by decide +kernel
theorem dX6_useFirstPredicateRule_3 : decode cX6_useFirstPredicateRule 3 = .ok (.aload_n 1, 1) := by decide +kernel
theorem dX6_useFirstPredicateRule_4 : decode cX6_useFirstPredicateRule 4 = .ok (.getfield 62, 3) := by decide +kernel
theorem dX6_useFirstPredicateRule_7 : decode cX6_useFirstPredicateRule 7 = .ok (.if_icmp .ge 24, 3) := by decide +kernel
theorem dX6_useFirstPredicateRule_10 : decode cX6_useFirstPredicateRule 10 = .ok (.aload_n 1, 1) := by decide +kernel
theorem dX6_useFirstPredicateRule_11 : decode cX6_useFirstPredicateRule 11 = .ok (.getfield 65, 3) := by decide +kernel
theorem dX6_useFirstPredicateRule_14 : decode cX6_useFirstPredicateRule 14 = .ok (.iload_n 2, 1) := by decide +kernel
theorem dX6_useFirstPredicateRule_15 : decode cX6_useFirstPredicateRule 15 = .ok (.aaload, 1) := by decide +kernel
theorem dX6_useFirstPredicateRule_16 : decode cX6_useFirstPredicateRule 16 = .ok (.invokevirtual 69, 3) := by decide +kernel
theorem dX6_useFirstPredicateRule_19 : decode cX6_useFirstPredicateRule 19 = .ok (.ifCond .eq 6, 3) := by decide +kernel
theorem dX6_useFirstPredicateRule_22 : decode cX6_useFirstPredicateRule 22 = .ok (.bipush 6, 2) := by decide +kernel
theorem dX6_useFirstPredicateRule_24 : decode cX6_useFirstPredicateRule 24 = .ok (.ireturn, 1) := by decide +kernel
theorem dX6_useFirstPredicateRule_25 : decode cX6_useFirstPredicateRule 25 = .ok (.iinc 2 1, 3) := by decide +kernel
theorem dX6_useFirstPredicateRule_28 : decode cX6_useFirstPredicateRule 28 = .ok (.goto (-26), 3) := by decide +kernel
theorem dX6_useFirstPredicateRule_31 : decode cX6_useFirstPredicateRule 31 = .ok (.iconst 0, 1) := by decide +kernel
theorem dX6_useFirstPredicateRule_32 : decode cX6_useFirstPredicateRule 32 = .ok (.istore_n 2, 1) := by decide +kernel
theorem dX6_useFirstPredicateRule_33 : decode cX6_useFirstPredicateRule 33 = .ok (.iload_n 2, 1) := by decide +kernel
theorem dX6_useFirstPredicateRule_34 : decode cX6_useFirstPredicateRule 34 = .ok (.aload_n 1, 1) := by decide +kernel
theorem dX6_useFirstPredicateRule_35 : decode cX6_useFirstPredicateRule 35 = .ok (.getfield 62, 3) := by decide +kernel
theorem dX6_useFirstPredicateRule_38 : decode cX6_useFirstPredicateRule 38 = .ok (.if_icmp .ge 24, 3) := by decide +kernel
theorem dX6_useFirstPredicateRule_41 : decode cX6_useFirstPredicateRule 41 = .ok (.aload_n 1, 1) := by decide +kernel
theorem dX6_useFirstPredicateRule_42 : decode cX6_useFirstPredicateRule 42 = .ok (.getfield 65, 3) := by decide +kernel
theorem dX6_useFirstPredicateRule_45 : decode cX6_useFirstPredicateRule 45 = .ok (.iload_n 2, 1) := by decide +kernel
theorem dX6_useFirstPredicateRule_46 : decode cX6_useFirstPredicateRule 46 = .ok (.aaload, 1) := by decide +kernel
theorem dX6_useFirstPredicateRule_47 : decode cX6_useFirstPredicateRule 47 = .ok (.invokevirtual 75, 3) := by decide +kernel
theorem dX6_useFirstPredicateRule_50 : decode cX6_useFirstPredicateRule 50 = .ok (.ifCond .eq 6, 3) := by decide +kernel
theorem dX6_useFirstPredicateRule_53 : decode cX6_useFirstPredicateRule 53 = .ok (.bipush 7, 2) := by decide +kernel
theorem dX6_useFirstPredicateRule_55 : decode cX6_useFirstPredicateRule 55 = .ok (.ireturn, 1) := by decide +kernel
theorem dX6_useFirstPredicateRule_56 : decode cX6_useFirstPredicateRule 56 = .ok (.iinc 2 1, 3) := by decide +kernel
theorem dX6_useFirstPredicateRule_59 : decode cX6_useFirstPredicateRule 59 = .ok (.goto (-26), 3) := by decide +kernel
theorem dX6_useFirstPredicateRule_62 : decode cX6_useFirstPredicateRule 62 = .ok (.iconst 0, 1) := by decide +kernel
theorem dX6_useFirstPredicateRule_63 : decode cX6_useFirstPredicateRule 63 = .ok (.istore_n 2, 1) := by decide +kernel
theorem dX6_useFirstPredicateRule_64 : decode cX6_useFirstPredicateRule 64 = .ok (.iload_n 2, 1) := by decide +kernel
theorem dX6_useFirstPredicateRule_65 : decode cX6_useFirstPredicateRule 65 = .ok (.aload_n 1, 1) := by decide +kernel
theorem dX6_useFirstPredicateRule_66 : decode cX6_useFirstPredicateRule 66 = .ok (.getfield 62, 3) := by decide +kernel
theorem dX6_useFirstPredicateRule_69 : decode cX6_useFirstPredicateRule 69 = .ok (.if_icmp .ge 24, 3) := by decide +kernel
theorem dX6_useFirstPredicateRule_72 : decode cX6_useFirstPredicateRule 72 = .ok (.aload_n 1, 1) := by decide +kernel
theorem dX6_useFirstPredicateRule_73 : decode cX6_useFirstPredicateRule 73 = .ok (.getfield 65, 3) := by decide +kernel
theorem dX6_useFirstPredicateRule_76 : decode cX6_useFirstPredicateRule 76 = .ok (.iload_n 2, 1) := by decide +kernel
theorem dX6_useFirstPredicateRule_77 : decode cX6_useFirstPredicateRule 77 = .ok (.aaload, 1) := by decide +kernel
theorem dX6_useFirstPredicateRule_78 : decode cX6_useFirstPredicateRule 78 = .ok (.invokevirtual 78, 3) := by decide +kernel
theorem dX6_useFirstPredicateRule_81 : decode cX6_useFirstPredicateRule 81 = .ok (.ifCond .eq 6, 3) := by decide +kernel
theorem dX6_useFirstPredicateRule_84 : decode cX6_useFirstPredicateRule 84 = .ok (.bipush 8, 2) := by decide +kernel
theorem dX6_useFirstPredicateRule_86 : decode cX6_useFirstPredicateRule 86 = .ok (.ireturn, 1) := by decide +kernel
theorem dX6_useFirstPredicateRule_87 : decode cX6_useFirstPredicateRule 87 = .ok (.iinc 2 1, 3) := by decide +kernel
theorem dX6_useFirstPredicateRule_90 : decode cX6_useFirstPredicateRule 90 = .ok (.goto (-26), 3) := by decide +kernel
theorem dX6_useFirstPredicateRule_93 : decode cX6_useFirstPredicateRule 93 = .ok (.iconst 0, 1) := by decide +kernel
theorem dX6_useFirstPredicateRule_94 : decode cX6_useFirstPredicateRule 94 = .ok (.ireturn, 1) := by decide +kernel
theorem dX6_dropIdleStep_0 : decode cX6_dropIdleStep 0 = .ok (.iconst 0, 1) := by decide +kernel
theorem dX6_dropIdleStep_1 : decode cX6_dropIdleStep 1 = .ok (.istore_n 2, 1) := by decide +kernel
theorem dX6_dropIdleStep_2 : decode cX6_dropIdleStep 2 = .ok (.iload_n 2, 1) := by decide +kernel
theorem dX6_dropIdleStep_3 : decode cX6_dropIdleStep 3 = .ok (.aload_n 1, 1) := by decide +kernel
theorem dX6_dropIdleStep_4 : decode cX6_dropIdleStep 4 = .ok (.getfield 62, 3) := by decide +kernel
theorem dX6_dropIdleStep_7 : decode cX6_dropIdleStep 7 = .ok (.if_icmp .ge 37, 3) := by decide +kernel
theorem dX6_dropIdleStep_10 : decode cX6_dropIdleStep 10 = .ok (.aload_n 1, 1) := by decide +kernel
theorem dX6_dropIdleStep_11 : decode cX6_dropIdleStep 11 = .ok (.getfield 62, 3) := by decide +kernel
theorem dX6_dropIdleStep_14 : decode cX6_dropIdleStep 14 = .ok (.iconst 1, 1) := by decide +kernel
theorem dX6_dropIdleStep_15 : decode cX6_dropIdleStep 15 = .ok (.if_icmp .le 29, 3) := by decide +kernel
theorem dX6_dropIdleStep_18 : decode cX6_dropIdleStep 18 = .ok (.aload_n 1, 1) := by decide +kernel
theorem dX6_dropIdleStep_19 : decode cX6_dropIdleStep 19 = .ok (.getfield 65, 3) := by decide +kernel
theorem dX6_dropIdleStep_22 : decode cX6_dropIdleStep 22 = .ok (.iload_n 2, 1) := by decide +kernel
theorem dX6_dropIdleStep_23 : decode cX6_dropIdleStep 23 = .ok (.aaload, 1) := by decide +kernel
theorem dX6_dropIdleStep_24 : decode cX6_dropIdleStep 24 = .ok (.iconst 1, 1) := by decide +kernel
theorem dX6_dropIdleStep_25 : decode cX6_dropIdleStep 25 = .ok (.invokevirtual 81, 3) := by decide +kernel
theorem dX6_dropIdleStep_28 : decode cX6_dropIdleStep 28 = .ok (.ifCond .eq 10, 3) := by decide +kernel
theorem dX6_dropIdleStep_31 : decode cX6_dropIdleStep 31 = .ok (.aload_n 1, 1) := by decide +kernel
theorem dX6_dropIdleStep_32 : decode cX6_dropIdleStep 32 = .ok (.iload_n 2, 1) := by decide +kernel
theorem dX6_dropIdleStep_33 : decode cX6_dropIdleStep 33 = .ok (.invokevirtual 84, 3) := by decide +kernel
theorem dX6_dropIdleStep_36 : decode cX6_dropIdleStep 36 = .ok (.iconst 1, 1) := by decide +kernel
theorem dX6_dropIdleStep_37 : decode cX6_dropIdleStep 37 = .ok (.ireturn, 1) := by decide +kernel
theorem dX6_dropIdleStep_38 : decode cX6_dropIdleStep 38 = .ok (.iinc 2 1, 3) := by decide +kernel
theorem dX6_dropIdleStep_41 : decode cX6_dropIdleStep 41 = .ok (.goto (-39), 3) := by decide +kernel
theorem dX6_dropIdleStep_44 : decode cX6_dropIdleStep 44 = .ok (.iconst 0, 1) := by decide +kernel
theorem dX6_dropIdleStep_45 : decode cX6_dropIdleStep 45 = .ok (.ireturn, 1) := by decide +kernel
theorem dX6_joinDescentToChild_0 : decode cX6_joinDescentToChild 0 = .ok (.iconst 1, 1) := by decide +kernel
theorem dX6_joinDescentToChild_1 : decode cX6_joinDescentToChild 1 = .ok (.istore_n 2, 1) := by decide +kernel
theorem dX6_joinDescentToChild_2 : decode cX6_joinDescentToChild 2 = .ok (.iload_n 2, 1) := by decide +kernel
theorem dX6_joinDescentToChild_3 : decode cX6_joinDescentToChild 3 = .ok (.aload_n 1, 1) := by decide +kernel
theorem dX6_joinDescentToChild_4 : decode cX6_joinDescentToChild 4 = .ok (.getfield 62, 3) := by decide +kernel
theorem dX6_joinDescentToChild_7 : decode cX6_joinDescentToChild 7 = .ok (.if_icmp .ge 59, 3) := by decide +kernel
theorem dX6_joinDescentToChild_10 : decode cX6_joinDescentToChild 10 = .ok (.aload_n 1, 1) := by decide +kernel
theorem dX6_joinDescentToChild_11 : decode cX6_joinDescentToChild 11 = .ok (.getfield 65, 3) := by decide +kernel
theorem dX6_joinDescentToChild_14 : decode cX6_joinDescentToChild 14 = .ok (.iload_n 2, 1) := by decide +kernel
theorem dX6_joinDescentToChild_15 : decode cX6_joinDescentToChild 15 = .ok (.aaload, 1) := by decide +kernel
theorem dX6_joinDescentToChild_16 : decode cX6_joinDescentToChild 16 = .ok (.astore_n 3, 1) := by decide +kernel
theorem dX6_joinDescentToChild_17 : decode cX6_joinDescentToChild 17 = .ok (.aload_n 1, 1) := by decide +kernel
theorem dX6_joinDescentToChild_18 : decode cX6_joinDescentToChild 18 = .ok (.getfield 65, 3) := by decide +kernel
theorem dX6_joinDescentToChild_21 : decode cX6_joinDescentToChild 21 = .ok (.iload_n 2, 1) := by decide +kernel
theorem dX6_joinDescentToChild_22 : decode cX6_joinDescentToChild 22 = .ok (.iconst 1, 1) := by decide +kernel
theorem dX6_joinDescentToChild_23 : decode cX6_joinDescentToChild 23 = .ok (.isub, 1) := by decide +kernel
theorem dX6_joinDescentToChild_24 : decode cX6_joinDescentToChild 24 = .ok (.aaload, 1) := by decide +kernel
theorem dX6_joinDescentToChild_25 : decode cX6_joinDescentToChild 25 = .ok (.iconst 3, 1) := by decide +kernel
theorem dX6_joinDescentToChild_26 : decode cX6_joinDescentToChild 26 = .ok (.invokevirtual 81, 3) := by decide +kernel
theorem dX6_joinDescentToChild_29 : decode cX6_joinDescentToChild 29 = .ok (.ifCond .eq 31, 3) := by decide +kernel
theorem dX6_joinDescentToChild_32 : decode cX6_joinDescentToChild 32 = .ok (.aload_n 3, 1) := by decide +kernel
theorem dX6_joinDescentToChild_33 : decode cX6_joinDescentToChild 33 = .ok (.getfield 87, 3) := by decide +kernel
theorem dX6_joinDescentToChild_36 : decode cX6_joinDescentToChild 36 = .ok (.ifCond .ne 24, 3) := by decide +kernel
theorem dX6_joinDescentToChild_39 : decode cX6_joinDescentToChild 39 = .ok (.aload_n 3, 1) := by decide +kernel
theorem dX6_joinDescentToChild_40 : decode cX6_joinDescentToChild 40 = .ok (.invokevirtual 90, 3) := by decide +kernel
theorem dX6_joinDescentToChild_43 : decode cX6_joinDescentToChild 43 = .ok (.ifCond .ne 17, 3) := by decide +kernel
theorem dX6_joinDescentToChild_46 : decode cX6_joinDescentToChild 46 = .ok (.aload_n 3, 1) := by decide +kernel
theorem dX6_joinDescentToChild_47 : decode cX6_joinDescentToChild 47 = .ok (.iconst 2, 1) := by decide +kernel
theorem dX6_joinDescentToChild_48 : decode cX6_joinDescentToChild 48 = .ok (.putfield 87, 3) := by decide +kernel
theorem dX6_joinDescentToChild_51 : decode cX6_joinDescentToChild 51 = .ok (.aload_n 1, 1) := by decide +kernel
theorem dX6_joinDescentToChild_52 : decode cX6_joinDescentToChild 52 = .ok (.iload_n 2, 1) := by decide +kernel
theorem dX6_joinDescentToChild_53 : decode cX6_joinDescentToChild 53 = .ok (.iconst 1, 1) := by decide +kernel
theorem dX6_joinDescentToChild_54 : decode cX6_joinDescentToChild 54 = .ok (.isub, 1) := by decide +kernel
theorem dX6_joinDescentToChild_55 : decode cX6_joinDescentToChild 55 = .ok (.invokevirtual 84, 3) := by decide +kernel
theorem dX6_joinDescentToChild_58 : decode cX6_joinDescentToChild 58 = .ok (.iconst 1, 1) := by decide +kernel
theorem dX6_joinDescentToChild_59 : decode cX6_joinDescentToChild 59 = .ok (.ireturn, 1) := by decide +kernel
theorem dX6_joinDescentToChild_60 : decode cX6_joinDescentToChild 60 = .ok (.iinc 2 1, 3) := by decide +kernel
theorem dX6_joinDescentToChild_63 : decode cX6_joinDescentToChild 63 = .ok (.goto (-61), 3) := by decide +kernel
theorem dX6_joinDescentToChild_66 : decode cX6_joinDescentToChild 66 = .ok (.iconst 0, 1) := by decide +kernel
theorem dX6_joinDescentToChild_67 : decode cX6_joinDescentToChild 67 = .ok (.ireturn, 1) := by decide +kernel
theorem dX6_joinDescents_0 : decode cX6_joinDescents 0 = .ok (.iconst 1, 1) := by decide +kernel
theorem dX6_joinDescents_1 : decode cX6_joinDescents 1 = .ok (.istore_n 2, 1) := by decide +kernel
theorem dX6_joinDescents_2 : decode cX6_joinDescents 2 = .ok (.iload_n 2, 1) := by decide +kernel
theorem dX6_joinDescents_3 : decode cX6_joinDescents 3 = .ok (.aload_n 1, 1) := by decide +kernel
theorem dX6_joinDescents_4 : decode cX6_joinDescents 4 = .ok (.getfield 62, 3) := by decide +kernel
theorem dX6_joinDescents_7 : decode cX6_joinDescents 7 = .ok (.if_icmp .ge 75, 3) := by decide +kernel
theorem dX6_joinDescents_10 : decode cX6_joinDescents 10 = .ok (.aload_n 1, 1) := by decide +kernel
theorem dX6_joinDescents_11 : decode cX6_joinDescents 11 = .ok (.getfield 65, 3) := by decide +kernel
theorem dX6_joinDescents_14 : decode cX6_joinDescents 14 = .ok (.iload_n 2, 1) := by decide +kernel
theorem dX6_joinDescents_15 : decode cX6_joinDescents 15 = .ok (.aaload, 1) := by decide +kernel
theorem dX6_joinDescents_16 : decode cX6_joinDescents 16 = .ok (.astore_n 3, 1) := by decide +kernel
theorem dX6_joinDescents_17 : decode cX6_joinDescents 17 = .ok (.aload_n 3, 1) := by decide +kernel
theorem dX6_joinDescents_18 : decode cX6_joinDescents 18 = .ok (.getfield 87, 3) := by decide +kernel
theorem dX6_joinDescents_21 : decode cX6_joinDescents 21 = .ok (.iconst 2, 1) := by decide +kernel
theorem dX6_joinDescents_22 : decode cX6_joinDescents 22 = .ok (.if_icmp .eq 11, 3) := by decide +kernel
theorem dX6_joinDescents_25 : decode cX6_joinDescents 25 = .ok (.aload_n 3, 1) := by decide +kernel
theorem dX6_joinDescents_26 : decode cX6_joinDescents 26 = .ok (.getfield 87, 3) := by decide +kernel
theorem dX6_joinDescents_29 : decode cX6_joinDescents 29 = .ok (.iconst 3, 1) := by decide +kernel
theorem dX6_joinDescents_30 : decode cX6_joinDescents 30 = .ok (.if_icmp .ne 7, 3) := by decide +kernel
theorem dX6_joinDescents_33 : decode cX6_joinDescents 33 = .ok (.iconst 1, 1) := by decide +kernel
theorem dX6_joinDescents_34 : decode cX6_joinDescents 34 = .ok (.goto 4, 3) := by decide +kernel
theorem dX6_joinDescents_37 : decode cX6_joinDescents 37 = .ok (.iconst 0, 1) := by decide +kernel
theorem dX6_joinDescents_38 : decode cX6_joinDescents 38 = .ok (.istore 4, 2) := by decide +kernel
theorem dX6_joinDescents_40 : decode cX6_joinDescents 40 = .ok (.aload_n 1, 1) := by decide +kernel
theorem dX6_joinDescents_41 : decode cX6_joinDescents 41 = .ok (.getfield 65, 3) := by decide +kernel
theorem dX6_joinDescents_44 : decode cX6_joinDescents 44 = .ok (.iload_n 2, 1) := by decide +kernel
theorem dX6_joinDescents_45 : decode cX6_joinDescents 45 = .ok (.iconst 1, 1) := by decide +kernel
theorem dX6_joinDescents_46 : decode cX6_joinDescents 46 = .ok (.isub, 1) := by decide +kernel
theorem dX6_joinDescents_47 : decode cX6_joinDescents 47 = .ok (.aaload, 1) := by decide +kernel
theorem dX6_joinDescents_48 : decode cX6_joinDescents 48 = .ok (.iconst 3, 1) := by decide +kernel
theorem dX6_joinDescents_49 : decode cX6_joinDescents 49 = .ok (.invokevirtual 81, 3) := by decide +kernel
theorem dX6_joinDescents_52 : decode cX6_joinDescents 52 = .ok (.ifCond .eq 24, 3) := by decide +kernel
theorem dX6_joinDescents_55 : decode cX6_joinDescents 55 = .ok (.iload 4, 2) := by decide +kernel
theorem dX6_joinDescents_57 : decode cX6_joinDescents 57 = .ok (.ifCond .eq 19, 3) := by decide +kernel
theorem dX6_joinDescents_60 : decode cX6_joinDescents 60 = .ok (.aload_n 3, 1) := by decide +kernel
theorem dX6_joinDescents_61 : decode cX6_joinDescents 61 = .ok (.invokevirtual 90, 3) := by decide +kernel
theorem dX6_joinDescents_64 : decode cX6_joinDescents 64 = .ok (.ifCond .ne 12, 3) := by decide +kernel
theorem dX6_joinDescents_67 : decode cX6_joinDescents 67 = .ok (.aload_n 1, 1) := by decide +kernel
theorem dX6_joinDescents_68 : decode cX6_joinDescents 68 = .ok (.iload_n 2, 1) := by decide +kernel
theorem dX6_joinDescents_69 : decode cX6_joinDescents 69 = .ok (.iconst 1, 1) := by decide +kernel
theorem dX6_joinDescents_70 : decode cX6_joinDescents 70 = .ok (.isub, 1) := by decide +kernel
theorem dX6_joinDescents_71 : decode cX6_joinDescents 71 = .ok (.invokevirtual 84, 3) := by decide +kernel
theorem dX6_joinDescents_74 : decode cX6_joinDescents 74 = .ok (.iconst 1, 1) := by decide +kernel
theorem dX6_joinDescents_75 : decode cX6_joinDescents 75 = .ok (.ireturn, 1) := by decide +kernel
theorem dX6_joinDescents_76 : decode cX6_joinDescents 76 = .ok (.iinc 2 1, 3) := by decide +kernel
theorem dX6_joinDescents_79 : decode cX6_joinDescents 79 = .ok (.goto (-77), 3) := by decide +kernel
theorem dX6_joinDescents_82 : decode cX6_joinDescents 82 = .ok (.iconst 0, 1) := by decide +kernel
theorem dX6_joinDescents_83 : decode cX6_joinDescents 83 = .ok (.ireturn, 1) := by decide +kernel
theorem dX6_turnBackToTest_0 : decode cX6_turnBackToTest 0 = .ok (.iconst 1, 1) := by decide +kernel
theorem dX6_turnBackToTest_1 : decode cX6_turnBackToTest 1 = .ok (.istore_n 2, 1) := by decide +kernel
theorem dX6_turnBackToTest_2 : decode cX6_turnBackToTest 2 = .ok (.iload_n 2, 1) := by decide +kernel
theorem dX6_turnBackToTest_3 : decode cX6_turnBackToTest 3 = .ok (.aload_n 1, 1) := by decide +kernel
theorem dX6_turnBackToTest_4 : decode cX6_turnBackToTest 4 = .ok (.getfield 62, 3) := by decide +kernel
theorem dX6_turnBackToTest_7 : decode cX6_turnBackToTest 7 = .ok (.if_icmp .ge 81, 3) := by decide +kernel
theorem dX6_turnBackToTest_10 : decode cX6_turnBackToTest 10 = .ok (.aload_n 1, 1) := by decide +kernel
theorem dX6_turnBackToTest_11 : decode cX6_turnBackToTest 11 = .ok (.getfield 65, 3) := by decide +kernel
theorem dX6_turnBackToTest_14 : decode cX6_turnBackToTest 14 = .ok (.iload_n 2, 1) := by decide +kernel
theorem dX6_turnBackToTest_15 : decode cX6_turnBackToTest 15 = .ok (.iconst 1, 1) := by decide +kernel
theorem dX6_turnBackToTest_16 : decode cX6_turnBackToTest 16 = .ok (.isub, 1) := by decide +kernel
theorem dX6_turnBackToTest_17 : decode cX6_turnBackToTest 17 = .ok (.aaload, 1) := by decide +kernel
theorem dX6_turnBackToTest_18 : decode cX6_turnBackToTest 18 = .ok (.astore_n 3, 1) := by decide +kernel
theorem dX6_turnBackToTest_19 : decode cX6_turnBackToTest 19 = .ok (.aload_n 3, 1) := by decide +kernel
theorem dX6_turnBackToTest_20 : decode cX6_turnBackToTest 20 = .ok (.getfield 93, 3) := by decide +kernel
theorem dX6_turnBackToTest_23 : decode cX6_turnBackToTest 23 = .ok (.ifCond .ne 59, 3) := by decide +kernel
theorem dX6_turnBackToTest_26 : decode cX6_turnBackToTest 26 = .ok (.aload_n 3, 1) := by decide +kernel
theorem dX6_turnBackToTest_27 : decode cX6_turnBackToTest 27 = .ok (.getfield 87, 3) := by decide +kernel
theorem dX6_turnBackToTest_30 : decode cX6_turnBackToTest 30 = .ok (.ifCond .ne 52, 3) := by decide +kernel
theorem dX6_turnBackToTest_33 : decode cX6_turnBackToTest 33 = .ok (.aload_n 1, 1) := by decide +kernel
theorem dX6_turnBackToTest_34 : decode cX6_turnBackToTest 34 = .ok (.getfield 65, 3) := by decide +kernel
theorem dX6_turnBackToTest_37 : decode cX6_turnBackToTest 37 = .ok (.iload_n 2, 1) := by decide +kernel
theorem dX6_turnBackToTest_38 : decode cX6_turnBackToTest 38 = .ok (.aaload, 1) := by decide +kernel
theorem dX6_turnBackToTest_39 : decode cX6_turnBackToTest 39 = .ok (.bipush 6, 2) := by decide +kernel
theorem dX6_turnBackToTest_41 : decode cX6_turnBackToTest 41 = .ok (.invokevirtual 81, 3) := by decide +kernel
theorem dX6_turnBackToTest_44 : decode cX6_turnBackToTest 44 = .ok (.ifCond .eq 38, 3) := by decide +kernel
theorem dX6_turnBackToTest_47 : decode cX6_turnBackToTest 47 = .ok (.aload_n 3, 1) := by decide +kernel
theorem dX6_turnBackToTest_48 : decode cX6_turnBackToTest 48 = .ok (.getfield 96, 3) := by decide +kernel
theorem dX6_turnBackToTest_51 : decode cX6_turnBackToTest 51 = .ok (.istore 4, 2) := by decide +kernel
theorem dX6_turnBackToTest_53 : decode cX6_turnBackToTest 53 = .ok (.aload_n 3, 1) := by decide +kernel
theorem dX6_turnBackToTest_54 : decode cX6_turnBackToTest 54 = .ok (.iconst 1, 1) := by decide +kernel
theorem dX6_turnBackToTest_55 : decode cX6_turnBackToTest 55 = .ok (.bipush 8, 2) := by decide +kernel
theorem dX6_turnBackToTest_57 : decode cX6_turnBackToTest 57 = .ok (.invokevirtual 99, 3) := by decide +kernel
theorem dX6_turnBackToTest_60 : decode cX6_turnBackToTest 60 = .ok (.aload_n 3, 1) := by decide +kernel
theorem dX6_turnBackToTest_61 : decode cX6_turnBackToTest 61 = .ok (.aload_n 3, 1) := by decide +kernel
theorem dX6_turnBackToTest_62 : decode cX6_turnBackToTest 62 = .ok (.invokevirtual 103, 3) := by decide +kernel
theorem dX6_turnBackToTest_65 : decode cX6_turnBackToTest 65 = .ok (.iconst 4, 1) := by decide +kernel
theorem dX6_turnBackToTest_66 : decode cX6_turnBackToTest 66 = .ok (.iconst 0, 1) := by decide +kernel
theorem dX6_turnBackToTest_67 : decode cX6_turnBackToTest 67 = .ok (.iload 4, 2) := by decide +kernel
theorem dX6_turnBackToTest_69 : decode cX6_turnBackToTest 69 = .ok (.invokestatic 109, 3) := by decide +kernel
theorem dX6_turnBackToTest_72 : decode cX6_turnBackToTest 72 = .ok (.invokevirtual 113, 3) := by decide +kernel
theorem dX6_turnBackToTest_75 : decode cX6_turnBackToTest 75 = .ok (.aload_n 1, 1) := by decide +kernel
theorem dX6_turnBackToTest_76 : decode cX6_turnBackToTest 76 = .ok (.iload_n 2, 1) := by decide +kernel
theorem dX6_turnBackToTest_77 : decode cX6_turnBackToTest 77 = .ok (.invokevirtual 84, 3) := by decide +kernel
theorem dX6_turnBackToTest_80 : decode cX6_turnBackToTest 80 = .ok (.iconst 1, 1) := by decide +kernel
theorem dX6_turnBackToTest_81 : decode cX6_turnBackToTest 81 = .ok (.ireturn, 1) := by decide +kernel
theorem dX6_turnBackToTest_82 : decode cX6_turnBackToTest 82 = .ok (.iinc 2 1, 3) := by decide +kernel
theorem dX6_turnBackToTest_85 : decode cX6_turnBackToTest 85 = .ok (.goto (-83), 3) := by decide +kernel
theorem dX6_turnBackToTest_88 : decode cX6_turnBackToTest 88 = .ok (.iconst 0, 1) := by decide +kernel
theorem dX6_turnBackToTest_89 : decode cX6_turnBackToTest 89 = .ok (.ireturn, 1) := by decide +kernel
theorem dX6_joinPredicates_0 : decode cX6_joinPredicates 0 = .ok (.iconst 1, 1) := by decide +kernel
theorem dX6_joinPredicates_1 : decode cX6_joinPredicates 1 = .ok (.istore_n 2, 1) := by decide +kernel
theorem dX6_joinPredicates_2 : decode cX6_joinPredicates 2 = .ok (.iload_n 2, 1) := by decide +kernel
theorem dX6_joinPredicates_3 : decode cX6_joinPredicates 3 = .ok (.aload_n 1, 1) := by decide +kernel
theorem dX6_joinPredicates_4 : decode cX6_joinPredicates 4 = .ok (.getfield 62, 3) := by decide +kernel
theorem dX6_joinPredicates_7 : decode cX6_joinPredicates 7 = .ok (.if_icmp .ge 70, 3) := by decide +kernel
theorem dX6_joinPredicates_10 : decode cX6_joinPredicates 10 = .ok (.aload_n 1, 1) := by decide +kernel
theorem dX6_joinPredicates_11 : decode cX6_joinPredicates 11 = .ok (.getfield 65, 3) := by decide +kernel
theorem dX6_joinPredicates_14 : decode cX6_joinPredicates 14 = .ok (.iload_n 2, 1) := by decide +kernel
theorem dX6_joinPredicates_15 : decode cX6_joinPredicates 15 = .ok (.iconst 1, 1) := by decide +kernel
theorem dX6_joinPredicates_16 : decode cX6_joinPredicates 16 = .ok (.isub, 1) := by decide +kernel
theorem dX6_joinPredicates_17 : decode cX6_joinPredicates 17 = .ok (.aaload, 1) := by decide +kernel
theorem dX6_joinPredicates_18 : decode cX6_joinPredicates 18 = .ok (.astore_n 3, 1) := by decide +kernel
theorem dX6_joinPredicates_19 : decode cX6_joinPredicates 19 = .ok (.aload_n 1, 1) := by decide +kernel
theorem dX6_joinPredicates_20 : decode cX6_joinPredicates 20 = .ok (.getfield 65, 3) := by decide +kernel
theorem dX6_joinPredicates_23 : decode cX6_joinPredicates 23 = .ok (.iload_n 2, 1) := by decide +kernel
theorem dX6_joinPredicates_24 : decode cX6_joinPredicates 24 = .ok (.aaload, 1) := by decide +kernel
theorem dX6_joinPredicates_25 : decode cX6_joinPredicates 25 = .ok (.astore 4, 2) := by decide +kernel
theorem dX6_joinPredicates_27 : decode cX6_joinPredicates 27 = .ok (.aload 4, 2) := by decide +kernel
theorem dX6_joinPredicates_29 : decode cX6_joinPredicates 29 = .ok (.iconst 1, 1) := by decide +kernel
theorem dX6_joinPredicates_30 : decode cX6_joinPredicates 30 = .ok (.invokevirtual 116, 3) := by decide +kernel
theorem dX6_joinPredicates_33 : decode cX6_joinPredicates 33 = .ok (.ifCond .eq 38, 3) := by decide +kernel
theorem dX6_joinPredicates_36 : decode cX6_joinPredicates 36 = .ok (.aload 4, 2) := by decide +kernel
theorem dX6_joinPredicates_38 : decode cX6_joinPredicates 38 = .ok (.invokevirtual 90, 3) := by decide +kernel
theorem dX6_joinPredicates_41 : decode cX6_joinPredicates 41 = .ok (.ifCond .ne 30, 3) := by decide +kernel
theorem dX6_joinPredicates_44 : decode cX6_joinPredicates 44 = .ok (.aload_n 3, 1) := by decide +kernel
theorem dX6_joinPredicates_45 : decode cX6_joinPredicates 45 = .ok (.getfield 93, 3) := by decide +kernel
theorem dX6_joinPredicates_48 : decode cX6_joinPredicates 48 = .ok (.aload 4, 2) := by decide +kernel
theorem dX6_joinPredicates_50 : decode cX6_joinPredicates 50 = .ok (.getfield 93, 3) := by decide +kernel
theorem dX6_joinPredicates_53 : decode cX6_joinPredicates 53 = .ok (.iadd, 1) := by decide +kernel
theorem dX6_joinPredicates_54 : decode cX6_joinPredicates 54 = .ok (.iconst 3, 1) := by decide +kernel
theorem dX6_joinPredicates_55 : decode cX6_joinPredicates 55 = .ok (.if_icmp .gt 16, 3) := by decide +kernel
theorem dX6_joinPredicates_58 : decode cX6_joinPredicates 58 = .ok (.aload_n 3, 1) := by decide +kernel
theorem dX6_joinPredicates_59 : decode cX6_joinPredicates 59 = .ok (.aload 4, 2) := by decide +kernel
theorem dX6_joinPredicates_61 : decode cX6_joinPredicates 61 = .ok (.invokevirtual 119, 3) := by decide +kernel
theorem dX6_joinPredicates_64 : decode cX6_joinPredicates 64 = .ok (.aload_n 1, 1) := by decide +kernel
theorem dX6_joinPredicates_65 : decode cX6_joinPredicates 65 = .ok (.iload_n 2, 1) := by decide +kernel
theorem dX6_joinPredicates_66 : decode cX6_joinPredicates 66 = .ok (.invokevirtual 84, 3) := by decide +kernel
theorem dX6_joinPredicates_69 : decode cX6_joinPredicates 69 = .ok (.iconst 1, 1) := by decide +kernel
theorem dX6_joinPredicates_70 : decode cX6_joinPredicates 70 = .ok (.ireturn, 1) := by decide +kernel
theorem dX6_joinPredicates_71 : decode cX6_joinPredicates 71 = .ok (.iinc 2 1, 3) := by decide +kernel
theorem dX6_joinPredicates_74 : decode cX6_joinPredicates 74 = .ok (.goto (-72), 3) := by decide +kernel
theorem dX6_joinPredicates_77 : decode cX6_joinPredicates 77 = .ok (.iconst 0, 1) := by decide +kernel
theorem dX6_joinPredicates_78 : decode cX6_joinPredicates 78 = .ok (.ireturn, 1) := by decide +kernel
theorem dX7_init_0 : decode cX7_init 0 = .ok (.aload_n 0, 1) := by decide +kernel
theorem dX7_init_1 : decode cX7_init 1 = .ok (.invokespecial 3, 3) := by decide +kernel
theorem dX7_init_4 : decode cX7_init 4 = .ok (.aload_n 0, 1) := by decide +kernel
theorem dX7_init_5 : decode cX7_init 5 = .ok (.new 9, 3) := by decide +kernel
theorem dX7_init_8 : decode cX7_init 8 = .ok (.dup, 1) := by decide +kernel
theorem dX7_init_9 : decode cX7_init 9 = .ok (.invokespecial 11, 3) := by decide +kernel
theorem dX7_init_12 : decode cX7_init 12 = .ok (.putfield 12, 3) := by decide +kernel
theorem dX7_init_15 : decode cX7_init 15 = .ok (.aload_n 0, 1) := by decide +kernel
theorem dX7_init_16 : decode cX7_init 16 = .ok (.iconst 4, 1) := by decide +kernel
theorem dX7_init_17 : decode cX7_init 17 = .ok (.anewarray 18, 3) := by decide +kernel
theorem dX7_init_20 : decode cX7_init 20 = .ok (.putfield 20, 3) := by decide +kernel
theorem dX7_init_23 : decode cX7_init 23 = .ok (.iconst 0, 1) := by decide +kernel
theorem dX7_init_24 : decode cX7_init 24 = .ok (.istore_n 1, 1) := by decide +kernel
theorem dX7_init_25 : decode cX7_init 25 = .ok (.iload_n 1, 1) := by decide +kernel
theorem dX7_init_26 : decode cX7_init 26 = .ok (.iconst 4, 1) := by decide +kernel
theorem dX7_init_27 : decode cX7_init 27 = .ok (.if_icmp .ge 22, 3) := by decide +kernel
theorem dX7_init_30 : decode cX7_init 30 = .ok (.aload_n 0, 1) := by decide +kernel
theorem dX7_init_31 : decode cX7_init 31 = .ok (.getfield 20, 3) := by decide +kernel
theorem dX7_init_34 : decode cX7_init 34 = .ok (.iload_n 1, 1) := by decide +kernel
theorem dX7_init_35 : decode cX7_init 35 = .ok (.new 18, 3) := by decide +kernel
theorem dX7_init_38 : decode cX7_init 38 = .ok (.dup, 1) := by decide +kernel
theorem dX7_init_39 : decode cX7_init 39 = .ok (.invokespecial 24, 3) := by decide +kernel
theorem dX7_init_42 : decode cX7_init 42 = .ok (.aastore, 1) := by decide +kernel
theorem dX7_init_43 : decode cX7_init 43 = .ok (.iinc 1 1, 3) := by decide +kernel
theorem dX7_init_46 : decode cX7_init 46 = .ok (.goto (-21), 3) := by decide +kernel
theorem dX7_init_49 : decode cX7_init 49 = .ok (.return_, 1) := by decide +kernel
theorem dX7_copyFrom_0 : decode cX7_copyFrom 0 = .ok (.aload_n 0, 1) := by decide +kernel
theorem dX7_copyFrom_1 : decode cX7_copyFrom 1 = .ok (.getfield 12, 3) := by decide +kernel
theorem dX7_copyFrom_4 : decode cX7_copyFrom 4 = .ok (.aload_n 1, 1) := by decide +kernel
theorem dX7_copyFrom_5 : decode cX7_copyFrom 5 = .ok (.getfield 12, 3) := by decide +kernel
theorem dX7_copyFrom_8 : decode cX7_copyFrom 8 = .ok (.invokevirtual 25, 3) := by decide +kernel
theorem dX7_copyFrom_11 : decode cX7_copyFrom 11 = .ok (.iconst 0, 1) := by decide +kernel
theorem dX7_copyFrom_12 : decode cX7_copyFrom 12 = .ok (.istore_n 2, 1) := by decide +kernel
theorem dX7_copyFrom_13 : decode cX7_copyFrom 13 = .ok (.iload_n 2, 1) := by decide +kernel
theorem dX7_copyFrom_14 : decode cX7_copyFrom 14 = .ok (.iconst 4, 1) := by decide +kernel
theorem dX7_copyFrom_15 : decode cX7_copyFrom 15 = .ok (.if_icmp .ge 24, 3) := by decide +kernel
theorem dX7_copyFrom_18 : decode cX7_copyFrom 18 = .ok (.aload_n 0, 1) := by decide +kernel
theorem dX7_copyFrom_19 : decode cX7_copyFrom 19 = .ok (.getfield 20, 3) := by decide +kernel
theorem dX7_copyFrom_22 : decode cX7_copyFrom 22 = .ok (.iload_n 2, 1) := by decide +kernel
theorem dX7_copyFrom_23 : decode cX7_copyFrom 23 = .ok (.aaload, 1) := by decide +kernel
theorem dX7_copyFrom_24 : decode cX7_copyFrom 24 = .ok (.aload_n 1, 1) := by decide +kernel
theorem dX7_copyFrom_25 : decode cX7_copyFrom 25 = .ok (.getfield 20, 3) := by decide +kernel
theorem dX7_copyFrom_28 : decode cX7_copyFrom 28 = .ok (.iload_n 2, 1) := by decide +kernel
theorem dX7_copyFrom_29 : decode cX7_copyFrom 29 = .ok (.aaload, 1) := by decide +kernel
theorem dX7_copyFrom_30 : decode cX7_copyFrom 30 = .ok (.invokevirtual 29, 3) := by decide +kernel
theorem dX7_copyFrom_33 : decode cX7_copyFrom 33 = .ok (.iinc 2 1, 3) := by decide +kernel
theorem dX7_copyFrom_36 : decode cX7_copyFrom 36 = .ok (.goto (-23), 3) := by decide +kernel
theorem dX7_copyFrom_39 : decode cX7_copyFrom 39 = .ok (.return_, 1) := by decide +kernel
theorem dX8_init_0 : decode cX8_init 0 = .ok (.aload_n 0, 1) := by decide +kernel
theorem dX8_init_1 : decode cX8_init 1 = .ok (.invokespecial 3, 3) := by decide +kernel
theorem dX8_init_4 : decode cX8_init 4 = .ok (.aload_n 0, 1) := by decide +kernel
theorem dX8_init_5 : decode cX8_init 5 = .ok (.iconst 0, 1) := by decide +kernel
theorem dX8_init_6 : decode cX8_init 6 = .ok (.putfield 9, 3) := by decide +kernel
theorem dX8_init_9 : decode cX8_init 9 = .ok (.aload_n 0, 1) := by decide +kernel
theorem dX8_init_10 : decode cX8_init 10 = .ok (.bipush 8, 2) := by decide +kernel
theorem dX8_init_12 : decode cX8_init 12 = .ok (.putfield 15, 3) := by decide +kernel
theorem dX8_init_15 : decode cX8_init 15 = .ok (.aload_n 0, 1) := by decide +kernel
theorem dX8_init_16 : decode cX8_init 16 = .ok (.iconst 0, 1) := by decide +kernel
theorem dX8_init_17 : decode cX8_init 17 = .ok (.putfield 18, 3) := by decide +kernel
theorem dX8_init_20 : decode cX8_init 20 = .ok (.aload_n 0, 1) := by decide +kernel
theorem dX8_init_21 : decode cX8_init 21 = .ok (.bipush 27, 2) := by decide +kernel
theorem dX8_init_23 : decode cX8_init 23 = .ok (.newarray .int, 2) := by decide +kernel
theorem dX8_init_25 : decode cX8_init 25 = .ok (.putfield 21, 3) := by decide +kernel
theorem dX8_init_28 : decode cX8_init 28 = .ok (.return_, 1) := by decide +kernel
theorem dX8_begin_0 : decode cX8_begin 0 = .ok (.aload_n 0, 1) := by decide +kernel
theorem dX8_begin_1 : decode cX8_begin 1 = .ok (.iload_n 1, 1) := by decide +kernel
theorem dX8_begin_2 : decode cX8_begin 2 = .ok (.putfield 9, 3) := by decide +kernel
theorem dX8_begin_5 : decode cX8_begin 5 = .ok (.aload_n 0, 1) := by decide +kernel
theorem dX8_begin_6 : decode cX8_begin 6 = .ok (.iload_n 2, 1) := by decide +kernel
theorem dX8_begin_7 : decode cX8_begin 7 = .ok (.putfield 15, 3) := by decide +kernel
theorem dX8_begin_10 : decode cX8_begin 10 = .ok (.aload_n 0, 1) := by decide +kernel
theorem dX8_begin_11 : decode cX8_begin 11 = .ok (.iconst 0, 1) := by decide +kernel
theorem dX8_begin_12 : decode cX8_begin 12 = .ok (.putfield 18, 3) := by decide +kernel
theorem dX8_begin_15 : decode cX8_begin 15 = .ok (.aload_n 0, 1) := by decide +kernel
theorem dX8_begin_16 : decode cX8_begin 16 = .ok (.getfield 21, 3) := by decide +kernel
theorem dX8_begin_19 : decode cX8_begin 19 = .ok (.iconst 0, 1) := by decide +kernel
theorem dX8_begin_20 : decode cX8_begin 20 = .ok (.invokestatic 27, 3) := by decide +kernel
theorem dX8_begin_23 : decode cX8_begin 23 = .ok (.return_, 1) := by decide +kernel
theorem dX8_copyFrom_0 : decode cX8_copyFrom 0 = .ok (.aload_n 0, 1) := by decide +kernel
theorem dX8_copyFrom_1 : decode cX8_copyFrom 1 = .ok (.aload_n 1, 1) := by decide +kernel
theorem dX8_copyFrom_2 : decode cX8_copyFrom 2 = .ok (.getfield 9, 3) := by decide +kernel
theorem dX8_copyFrom_5 : decode cX8_copyFrom 5 = .ok (.putfield 9, 3) := by decide +kernel
theorem dX8_copyFrom_8 : decode cX8_copyFrom 8 = .ok (.aload_n 0, 1) := by decide +kernel
theorem dX8_copyFrom_9 : decode cX8_copyFrom 9 = .ok (.aload_n 1, 1) := by decide +kernel
theorem dX8_copyFrom_10 : decode cX8_copyFrom 10 = .ok (.getfield 15, 3) := by decide +kernel
theorem dX8_copyFrom_13 : decode cX8_copyFrom 13 = .ok (.putfield 15, 3) := by decide +kernel
theorem dX8_copyFrom_16 : decode cX8_copyFrom 16 = .ok (.aload_n 0, 1) := by decide +kernel
theorem dX8_copyFrom_17 : decode cX8_copyFrom 17 = .ok (.aload_n 1, 1) := by decide +kernel
theorem dX8_copyFrom_18 : decode cX8_copyFrom 18 = .ok (.getfield 18, 3) := by decide +kernel
theorem dX8_copyFrom_21 : decode cX8_copyFrom 21 = .ok (.putfield 18, 3) := by decide +kernel
theorem dX8_copyFrom_24 : decode cX8_copyFrom 24 = .ok (.aload_n 1, 1) := by decide +kernel
theorem dX8_copyFrom_25 : decode cX8_copyFrom 25 = .ok (.getfield 21, 3) := by decide +kernel
theorem dX8_copyFrom_28 : decode cX8_copyFrom 28 = .ok (.iconst 0, 1) := by decide +kernel
theorem dX8_copyFrom_29 : decode cX8_copyFrom 29 = .ok (.aload_n 0, 1) := by decide +kernel
theorem dX8_copyFrom_30 : decode cX8_copyFrom 30 = .ok (.getfield 21, 3) := by decide +kernel
theorem dX8_copyFrom_33 : decode cX8_copyFrom 33 = .ok (.iconst 0, 1) := by decide +kernel
theorem dX8_copyFrom_34 : decode cX8_copyFrom 34 = .ok (.bipush 27, 2) := by decide +kernel
theorem dX8_copyFrom_36 : decode cX8_copyFrom 36 = .ok (.invokestatic 33, 3) := by decide +kernel
theorem dX8_copyFrom_39 : decode cX8_copyFrom 39 = .ok (.return_, 1) := by decide +kernel
theorem dX8_isAny_0 : decode cX8_isAny 0 = .ok (.aload_n 0, 1) := by decide +kernel
theorem dX8_isAny_1 : decode cX8_isAny 1 = .ok (.getfield 9, 3) := by decide +kernel
theorem dX8_isAny_4 : decode cX8_isAny 4 = .ok (.iload_n 1, 1) := by decide +kernel
theorem dX8_isAny_5 : decode cX8_isAny 5 = .ok (.if_icmp .ne 16, 3) := by decide +kernel
theorem dX8_isAny_8 : decode cX8_isAny 8 = .ok (.aload_n 0, 1) := by decide +kernel
theorem dX8_isAny_9 : decode cX8_isAny 9 = .ok (.getfield 15, 3) := by decide +kernel
theorem dX8_isAny_12 : decode cX8_isAny 12 = .ok (.bipush 8, 2) := by decide +kernel
theorem dX8_isAny_14 : decode cX8_isAny 14 = .ok (.if_icmp .ne 7, 3) := by decide +kernel
theorem dX8_isAny_17 : decode cX8_isAny 17 = .ok (.iconst 1, 1) := by decide +kernel
theorem dX8_isAny_18 : decode cX8_isAny 18 = .ok (.goto 4, 3) := by decide +kernel
theorem dX8_isAny_21 : decode cX8_isAny 21 = .ok (.iconst 0, 1) := by decide +kernel
theorem dX8_isAny_22 : decode cX8_isAny 22 = .ok (.ireturn, 1) := by decide +kernel
theorem dX8_isPlainAny_0 : decode cX8_isPlainAny 0 = .ok (.aload_n 0, 1) := by decide +kernel
theorem dX8_isPlainAny_1 : decode cX8_isPlainAny 1 = .ok (.getfield 18, 3) := by decide +kernel
theorem dX8_isPlainAny_4 : decode cX8_isPlainAny 4 = .ok (.ifCond .ne 15, 3) := by decide +kernel
theorem dX8_isPlainAny_7 : decode cX8_isPlainAny 7 = .ok (.aload_n 0, 1) := by decide +kernel
theorem dX8_isPlainAny_8 : decode cX8_isPlainAny 8 = .ok (.iload_n 1, 1) := by decide +kernel
theorem dX8_isPlainAny_9 : decode cX8_isPlainAny 9 = .ok (.invokevirtual 39, 3) := by decide +kernel
theorem dX8_isPlainAny_12 : decode cX8_isPlainAny 12 = .ok (.ifCond .eq 7, 3) := by decide +kernel
theorem dX8_isPlainAny_15 : decode cX8_isPlainAny 15 = .ok (.iconst 1, 1) := by decide +kernel
theorem dX8_isPlainAny_16 : decode cX8_isPlainAny 16 = .ok (.goto 4, 3) := by decide +kernel
theorem dX8_isPlainAny_19 : decode cX8_isPlainAny 19 = .ok (.iconst 0, 1) := by decide +kernel
theorem dX8_isPlainAny_20 : decode cX8_isPlainAny 20 = .ok (.ireturn, 1) := by decide +kernel
theorem dX8_isPositional_0 : decode cX8_isPositional 0 = .ok (.iconst 0, 1) := by decide +kernel
theorem dX8_isPositional_1 : decode cX8_isPositional 1 = .ok (.istore_n 1, 1) := by decide +kernel
theorem dX8_isPositional_2 : decode cX8_isPositional 2 = .ok (.iload_n 1, 1) := by decide +kernel
theorem dX8_isPositional_3 : decode cX8_isPositional 3 = .ok (.bipush 27, 2) := by decide +kernel
theorem dX8_isPositional_5 : decode cX8_isPositional 5 = .ok (.if_icmp .ge 23, 3) := by decide +kernel
theorem dX8_isPositional_8 : decode cX8_isPositional 8 = .ok (.aload_n 0, 1) := by decide +kernel
theorem dX8_isPositional_9 : decode cX8_isPositional 9 = .ok (.getfield 21, 3) := by decide +kernel
theorem dX8_isPositional_12 : decode cX8_isPositional 12 = .ok (.iload_n 1, 1) := by decide +kernel
theorem dX8_isPositional_13 : decode cX8_isPositional 13 = .ok (.iaload, 1) := by decide +kernel
theorem dX8_isPositional_14 : decode cX8_isPositional 14 = .ok (.invokestatic 43, 3) := by decide +kernel
theorem dX8_isPositional_17 : decode cX8_isPositional 17 = .ok (.ifCond .eq 5, 3) := by decide +kernel
theorem dX8_isPositional_20 : decode cX8_isPositional 20 = .ok (.iconst 1, 1) := by decide +kernel
theorem dX8_isPositional_21 : decode cX8_isPositional 21 = .ok (.ireturn, 1) := by decide +kernel
theorem dX8_isPositional_22 : decode cX8_isPositional 22 = .ok (.iinc 1 1, 3) := by decide +kernel
theorem dX8_isPositional_25 : decode cX8_isPositional 25 = .ok (.goto (-23), 3) := by decide +kernel
theorem dX8_isPositional_28 : decode cX8_isPositional 28 = .ok (.iconst 0, 1) := by decide +kernel
theorem dX8_isPositional_29 : decode cX8_isPositional 29 = .ok (.ireturn, 1) := by decide +kernel
theorem dX8_conditionTotal_0 : decode cX8_conditionTotal 0 = .ok (.iconst 0, 1) := by decide +kernel
theorem dX8_conditionTotal_1 : decode cX8_conditionTotal 1 = .ok (.istore_n 1, 1) := by decide +kernel
theorem dX8_conditionTotal_2 : decode cX8_conditionTotal 2 = .ok (.iconst 0, 1) := by decide +kernel
theorem dX8_conditionTotal_3 : decode cX8_conditionTotal 3 = .ok (.istore_n 2, 1) := by decide +kernel
theorem dX8_conditionTotal_4 : decode cX8_conditionTotal 4 = .ok (.iload_n 2, 1) := by decide +kernel
theorem dX8_conditionTotal_5 : decode cX8_conditionTotal 5 = .ok (.bipush 27, 2) := by decide +kernel
theorem dX8_conditionTotal_7 : decode cX8_conditionTotal 7 = .ok (.if_icmp .ge 21, 3) := by decide +kernel
theorem dX8_conditionTotal_10 : decode cX8_conditionTotal 10 = .ok (.aload_n 0, 1) := by decide +kernel
theorem dX8_conditionTotal_11 : decode cX8_conditionTotal 11 = .ok (.getfield 21, 3) := by decide +kernel
theorem dX8_conditionTotal_14 : decode cX8_conditionTotal 14 = .ok (.iload_n 2, 1) := by decide +kernel
theorem dX8_conditionTotal_15 : decode cX8_conditionTotal 15 = .ok (.iaload, 1) := by decide +kernel
theorem dX8_conditionTotal_16 : decode cX8_conditionTotal 16 = .ok (.ifCond .eq 6, 3) := by decide +kernel
theorem dX8_conditionTotal_19 : decode cX8_conditionTotal 19 = .ok (.iinc 1 1, 3) := by decide +kernel
theorem dX8_conditionTotal_22 : decode cX8_conditionTotal 22 = .ok (.iinc 2 1, 3) := by decide +kernel
theorem dX8_conditionTotal_25 : decode cX8_conditionTotal 25 = .ok (.goto (-21), 3) := by decide +kernel
theorem dX8_conditionTotal_28 : decode cX8_conditionTotal 28 = .ok (.iload_n 1, 1) := by decide +kernel
theorem dX8_conditionTotal_29 : decode cX8_conditionTotal 29 = .ok (.ireturn, 1) := by decide +kernel
theorem dX8_isLike_0 : decode cX8_isLike 0 = .ok (.aload_n 0, 1) := by decide +kernel
theorem dX8_isLike_1 : decode cX8_isLike 1 = .ok (.getfield 9, 3) := by decide +kernel
theorem dX8_isLike_4 : decode cX8_isLike 4 = .ok (.aload_n 1, 1) := by decide +kernel
theorem dX8_isLike_5 : decode cX8_isLike 5 = .ok (.getfield 9, 3) := by decide +kernel
theorem dX8_isLike_8 : decode cX8_isLike 8 = .ok (.if_icmp .ne 25, 3) := by decide +kernel
theorem dX8_isLike_11 : decode cX8_isLike 11 = .ok (.aload_n 0, 1) := by decide +kernel
theorem dX8_isLike_12 : decode cX8_isLike 12 = .ok (.getfield 15, 3) := by decide +kernel
theorem dX8_isLike_15 : decode cX8_isLike 15 = .ok (.aload_n 1, 1) := by decide +kernel
theorem dX8_isLike_16 : decode cX8_isLike 16 = .ok (.getfield 15, 3) := by decide +kernel
theorem dX8_isLike_19 : decode cX8_isLike 19 = .ok (.if_icmp .ne 14, 3) := by decide +kernel
theorem dX8_isLike_22 : decode cX8_isLike 22 = .ok (.aload_n 0, 1) := by decide +kernel
theorem dX8_isLike_23 : decode cX8_isLike 23 = .ok (.getfield 18, 3) := by decide +kernel
theorem dX8_isLike_26 : decode cX8_isLike 26 = .ok (.aload_n 1, 1) := by decide +kernel
theorem dX8_isLike_27 : decode cX8_isLike 27 = .ok (.getfield 18, 3) := by decide +kernel
theorem dX8_isLike_30 : decode cX8_isLike 30 = .ok (.if_icmp .eq 5, 3) := by decide +kernel
theorem dX8_isLike_33 : decode cX8_isLike 33 = .ok (.iconst 0, 1) := by decide +kernel
theorem dX8_isLike_34 : decode cX8_isLike 34 = .ok (.ireturn, 1) := by decide +kernel
theorem dX8_isLike_35 : decode cX8_isLike 35 = .ok (.iconst 0, 1) := by decide +kernel
theorem dX8_isLike_36 : decode cX8_isLike 36 = .ok (.istore_n 2, 1) := by decide +kernel
theorem dX8_isLike_37 : decode cX8_isLike 37 = .ok (.iload_n 2, 1) := by decide +kernel
theorem dX8_isLike_38 : decode cX8_isLike 38 = .ok (.bipush 27, 2) := by decide +kernel
theorem dX8_isLike_40 : decode cX8_isLike 40 = .ok (.if_icmp .ge 26, 3) := by decide +kernel
theorem dX8_isLike_43 : decode cX8_isLike 43 = .ok (.aload_n 0, 1) := by decide +kernel
theorem dX8_isLike_44 : decode cX8_isLike 44 = .ok (.getfield 21, 3) := by decide +kernel
theorem dX8_isLike_47 : decode cX8_isLike 47 = .ok (.iload_n 2, 1) := by decide +kernel
theorem dX8_isLike_48 : decode cX8_isLike 48 = .ok (.iaload, 1) := by decide +kernel
theorem dX8_isLike_49 : decode cX8_isLike 49 = .ok (.aload_n 1, 1) := by decide +kernel
theorem dX8_isLike_50 : decode cX8_isLike 50 = .ok (.getfield 21, 3) := by decide +kernel
theorem dX8_isLike_53 : decode cX8_isLike 53 = .ok (.iload_n 2, 1) := by decide +kernel
theorem dX8_isLike_54 : decode cX8_isLike 54 = .ok (.iaload, 1) := by decide +kernel
theorem dX8_isLike_55 : decode cX8_isLike 55 = .ok (.if_icmp .eq 5, 3) := by decide +kernel
theorem dX8_isLike_58 : decode cX8_isLike 58 = .ok (.iconst 0, 1) := by decide +kernel
theorem dX8_isLike_59 : decode cX8_isLike 59 = .ok (.ireturn, 1) := by decide +kernel
theorem dX8_isLike_60 : decode cX8_isLike 60 = .ok (.iinc 2 1, 3) := by decide +kernel
theorem dX8_isLike_63 : decode cX8_isLike 63 = .ok (.goto (-26), 3) := by decide +kernel
theorem dX8_isLike_66 : decode cX8_isLike 66 = .ok (.iconst 1, 1) := by decide +kernel
theorem dX8_isLike_67 : decode cX8_isLike 67 = .ok (.ireturn, 1) := by decide +kernel
theorem dX8_setCondition_0 : decode cX8_setCondition 0 = .ok (.iload_n 1, 1) := by decide +kernel
theorem dX8_setCondition_1 : decode cX8_setCondition 1 = .ok (.ifCond .lt 16, 3) := by decide +kernel
theorem dX8_setCondition_4 : decode cX8_setCondition 4 = .ok (.iload_n 1, 1) := by decide +kernel
theorem dX8_setCondition_5 : decode cX8_setCondition 5 = .ok (.bipush 27, 2) := by decide +kernel
theorem dX8_setCondition_7 : decode cX8_setCondition 7 = .ok (.if_icmp .ge 10, 3) := by decide +kernel
theorem dX8_setCondition_10 : decode cX8_setCondition 10 = .ok (.aload_n 0, 1) := by decide +kernel
theorem dX8_setCondition_11 : decode cX8_setCondition 11 = .ok (.getfield 21, 3) := by decide +kernel
theorem dX8_setCondition_14 : decode cX8_setCondition 14 = .ok (.iload_n 1, 1) := by decide +kernel
theorem dX8_setCondition_15 : decode cX8_setCondition 15 = .ok (.iload_n 2, 1) := by decide +kernel
theorem dX8_setCondition_16 : decode cX8_setCondition 16 = .ok (.iastore, 1) := by decide +kernel
theorem dX8_setCondition_17 : decode cX8_setCondition 17 = .ok (.return_, 1) := by decide +kernel
theorem dX8_conditionAt_0 : decode cX8_conditionAt 0 = .ok (.iload_n 1, 1) := by decide +kernel
theorem dX8_conditionAt_1 : decode cX8_conditionAt 1 = .ok (.ifCond .lt 18, 3) := by decide +kernel
theorem dX8_conditionAt_4 : decode cX8_conditionAt 4 = .ok (.iload_n 1, 1) := by decide +kernel
theorem dX8_conditionAt_5 : decode cX8_conditionAt 5 = .ok (.bipush 27, 2) := by decide +kernel
theorem dX8_conditionAt_7 : decode cX8_conditionAt 7 = .ok (.if_icmp .ge 12, 3) := by decide +kernel
theorem dX8_conditionAt_10 : decode cX8_conditionAt 10 = .ok (.aload_n 0, 1) := by decide +kernel
theorem dX8_conditionAt_11 : decode cX8_conditionAt 11 = .ok (.getfield 21, 3) := by decide +kernel
theorem dX8_conditionAt_14 : decode cX8_conditionAt 14 = .ok (.iload_n 1, 1) := by decide +kernel
theorem dX8_conditionAt_15 : decode cX8_conditionAt 15 = .ok (.iaload, 1) := by decide +kernel
theorem dX8_conditionAt_16 : decode cX8_conditionAt 16 = .ok (.goto 4, 3) := by decide +kernel
theorem dX8_conditionAt_19 : decode cX8_conditionAt 19 = .ok (.iconst 0, 1) := by decide +kernel
theorem dX8_conditionAt_20 : decode cX8_conditionAt 20 = .ok (.ireturn, 1) := by decide +kernel
theorem dX8_openPredicate_0 : decode cX8_openPredicate 0 = .ok (.aload_n 0, 1) := by decide +kernel
theorem dX8_openPredicate_1 : decode cX8_openPredicate 1 = .ok (.getfield 18, 3) := by decide +kernel
theorem dX8_openPredicate_4 : decode cX8_openPredicate 4 = .ok (.bipush 9, 2) := by decide +kernel
theorem dX8_openPredicate_6 : decode cX8_openPredicate 6 = .ok (.imul, 1) := by decide +kernel
theorem dX8_openPredicate_7 : decode cX8_openPredicate 7 = .ok (.istore_n 1, 1) := by decide +kernel
theorem dX8_openPredicate_8 : decode cX8_openPredicate 8 = .ok (.aload_n 0, 1) := by decide +kernel
theorem dX8_openPredicate_9 : decode cX8_openPredicate 9 = .ok (.dup, 1) := by decide +kernel
theorem dX8_openPredicate_10 : decode cX8_openPredicate 10 = .ok (.getfield 18, 3) := by decide +kernel
theorem dX8_openPredicate_13 : decode cX8_openPredicate 13 = .ok (.iconst 1, 1) := by decide +kernel
theorem dX8_openPredicate_14 : decode cX8_openPredicate 14 = .ok (.iadd, 1) := by decide +kernel
theorem dX8_openPredicate_15 : decode cX8_openPredicate 15 = .ok (.putfield 18, 3) := by decide +kernel
theorem dX8_openPredicate_18 : decode cX8_openPredicate 18 = .ok (.iload_n 1, 1) := by decide +kernel
theorem dX8_openPredicate_19 : decode cX8_openPredicate 19 = .ok (.ireturn, 1) := by decide +kernel
theorem dX8_appendPredicatesOf_0 : decode cX8_appendPredicatesOf 0 = .ok (.aload_n 0, 1) := by decide +kernel
theorem dX8_appendPredicatesOf_1 : decode cX8_appendPredicatesOf 1 = .ok (.getfield 18, 3) := by decide +kernel
theorem dX8_appendPredicatesOf_4 : decode cX8_appendPredicatesOf 4 = .ok (.aload_n 1, 1) := by decide +kernel
theorem dX8_appendPredicatesOf_5 : decode cX8_appendPredicatesOf 5 = .ok (.getfield 18, 3) := by decide +kernel
theorem dX8_appendPredicatesOf_8 : decode cX8_appendPredicatesOf 8 = .ok (.iadd, 1) := by decide +kernel
theorem dX8_appendPredicatesOf_9 : decode cX8_appendPredicatesOf 9 = .ok (.iconst 3, 1) := by decide +kernel
theorem dX8_appendPredicatesOf_10 : decode cX8_appendPredicatesOf 10 = .ok (.if_icmp .gt 42, 3) := by decide +kernel
theorem dX8_appendPredicatesOf_13 : decode cX8_appendPredicatesOf 13 = .ok (.aload_n 1, 1) := by decide +kernel
theorem dX8_appendPredicatesOf_14 : decode cX8_appendPredicatesOf 14 = .ok (.getfield 21, 3) := by decide +kernel
theorem dX8_appendPredicatesOf_17 : decode cX8_appendPredicatesOf 17 = .ok (.iconst 0, 1) := by decide +kernel
theorem dX8_appendPredicatesOf_18 : decode cX8_appendPredicatesOf 18 = .ok (.aload_n 0, 1) := by decide +kernel
theorem dX8_appendPredicatesOf_19 : decode cX8_appendPredicatesOf 19 = .ok (.getfield 21, 3) := by decide +kernel
theorem dX8_appendPredicatesOf_22 : decode cX8_appendPredicatesOf 22 = .ok (.aload_n 0, 1) := by decide +kernel
theorem dX8_appendPredicatesOf_23 : decode cX8_appendPredicatesOf 23 = .ok (.getfield 18, 3) := by decide +kernel
theorem dX8_appendPredicatesOf_26 : decode cX8_appendPredicatesOf 26 = .ok (.bipush 9, 2) := by decide +kernel
theorem dX8_appendPredicatesOf_28 : decode cX8_appendPredicatesOf 28 = .ok (.imul, 1) := by decide +kernel
theorem dX8_appendPredicatesOf_29 : decode cX8_appendPredicatesOf 29 = .ok (.aload_n 1, 1) := by decide +kernel
theorem dX8_appendPredicatesOf_30 : decode cX8_appendPredicatesOf 30 = .ok (.getfield 18, 3) := by decide +kernel
theorem dX8_appendPredicatesOf_33 : decode cX8_appendPredicatesOf 33 = .ok (.bipush 9, 2) := by decide +kernel
theorem dX8_appendPredicatesOf_35 : decode cX8_appendPredicatesOf 35 = .ok (.imul, 1) := by decide +kernel
theorem dX8_appendPredicatesOf_36 : decode cX8_appendPredicatesOf 36 = .ok (.invokestatic 33, 3) := by decide +kernel
theorem dX8_appendPredicatesOf_39 : decode cX8_appendPredicatesOf 39 = .ok (.aload_n 0, 1) := by decide +kernel
theorem dX8_appendPredicatesOf_40 : decode cX8_appendPredicatesOf 40 = .ok (.dup, 1) := by decide +kernel
theorem dX8_appendPredicatesOf_41 : decode cX8_appendPredicatesOf 41 = .ok (.getfield 18, 3) := by decide +kernel
theorem dX8_appendPredicatesOf_44 : decode cX8_appendPredicatesOf 44 = .ok (.aload_n 1, 1) := by decide +kernel
theorem dX8_appendPredicatesOf_45 : decode cX8_appendPredicatesOf 45 = .ok (.getfield 18, 3) := by decide +kernel
theorem dX8_appendPredicatesOf_48 : decode cX8_appendPredicatesOf 48 = .ok (.iadd, 1) := by decide +kernel
theorem dX8_appendPredicatesOf_49 : decode cX8_appendPredicatesOf 49 = .ok (.putfield 18, 3) := by decide +kernel
theorem dX8_appendPredicatesOf_52 : decode cX8_appendPredicatesOf 52 = .ok (.return_, 1) := by decide +kernel
theorem dX8_removePredicate_0 : decode cX8_removePredicate 0 = .ok (.iload_n 1, 1) := by decide +kernel
theorem dX8_removePredicate_1 : decode cX8_removePredicate 1 = .ok (.bipush 9, 2) := by decide +kernel
theorem dX8_removePredicate_3 : decode cX8_removePredicate 3 = .ok (.imul, 1) := by decide +kernel
theorem dX8_removePredicate_4 : decode cX8_removePredicate 4 = .ok (.istore_n 2, 1) := by decide +kernel
theorem dX8_removePredicate_5 : decode cX8_removePredicate 5 = .ok (.aload_n 0, 1) := by decide +kernel
theorem dX8_removePredicate_6 : decode cX8_removePredicate 6 = .ok (.iload_n 2, 1) := by decide +kernel
theorem dX8_removePredicate_7 : decode cX8_removePredicate 7 = .ok (.bipush 9, 2) := by decide +kernel
theorem dX8_removePredicate_9 : decode cX8_removePredicate 9 = .ok (.bipush 27, 2) := by decide +kernel
theorem dX8_removePredicate_11 : decode cX8_removePredicate 11 = .ok (.invokevirtual 46, 3) := by decide +kernel
theorem dX8_removePredicate_14 : decode cX8_removePredicate 14 = .ok (.aload_n 0, 1) := by decide +kernel
theorem dX8_removePredicate_15 : decode cX8_removePredicate 15 = .ok (.dup, 1) := by decide +kernel
theorem dX8_removePredicate_16 : decode cX8_removePredicate 16 = .ok (.getfield 18, 3) := by decide +kernel
theorem dX8_removePredicate_19 : decode cX8_removePredicate 19 = .ok (.iconst 1, 1) := by decide +kernel
theorem dX8_removePredicate_20 : decode cX8_removePredicate 20 = .ok (.isub, 1) := by decide +kernel
theorem dX8_removePredicate_21 : decode cX8_removePredicate 21 = .ok (.putfield 18, 3) := by decide +kernel
theorem dX8_removePredicate_24 : decode cX8_removePredicate 24 = .ok (.return_, 1) := by decide +kernel
theorem dX8_closeGap_0 : decode cX8_closeGap 0 = .ok (.iload_n 1, 1) := by decide +kernel
theorem dX8_closeGap_1 : decode cX8_closeGap 1 = .ok (.istore 4, 2) := by decide +kernel
theorem dX8_closeGap_3 : decode cX8_closeGap 3 = .ok (.iload 4, 2) := by decide +kernel
theorem dX8_closeGap_5 : decode cX8_closeGap 5 = .ok (.iload_n 3, 1) := by decide +kernel
theorem dX8_closeGap_6 : decode cX8_closeGap 6 = .ok (.if_icmp .ge 37, 3) := by decide +kernel
theorem dX8_closeGap_9 : decode cX8_closeGap 9 = .ok (.aload_n 0, 1) := by decide +kernel
theorem dX8_closeGap_10 : decode cX8_closeGap 10 = .ok (.getfield 21, 3) := by decide +kernel
theorem dX8_closeGap_13 : decode cX8_closeGap 13 = .ok (.iload 4, 2) := by decide +kernel
theorem dX8_closeGap_15 : decode cX8_closeGap 15 = .ok (.iload 4, 2) := by decide +kernel
theorem dX8_closeGap_17 : decode cX8_closeGap 17 = .ok (.iload_n 2, 1) := by decide +kernel
theorem dX8_closeGap_18 : decode cX8_closeGap 18 = .ok (.iadd, 1) := by decide +kernel
theorem dX8_closeGap_19 : decode cX8_closeGap 19 = .ok (.iload_n 3, 1) := by decide +kernel
theorem dX8_closeGap_20 : decode cX8_closeGap 20 = .ok (.if_icmp .ge 15, 3) := by decide +kernel
theorem dX8_closeGap_23 : decode cX8_closeGap 23 = .ok (.aload_n 0, 1) := by decide +kernel
theorem dX8_closeGap_24 : decode cX8_closeGap 24 = .ok (.getfield 21, 3) := by decide +kernel
theorem dX8_closeGap_27 : decode cX8_closeGap 27 = .ok (.iload 4, 2) := by decide +kernel
theorem dX8_closeGap_29 : decode cX8_closeGap 29 = .ok (.iload_n 2, 1) := by decide +kernel
theorem dX8_closeGap_30 : decode cX8_closeGap 30 = .ok (.iadd, 1) := by decide +kernel
theorem dX8_closeGap_31 : decode cX8_closeGap 31 = .ok (.iaload, 1) := by decide +kernel
theorem dX8_closeGap_32 : decode cX8_closeGap 32 = .ok (.goto 4, 3) := by decide +kernel
theorem dX8_closeGap_35 : decode cX8_closeGap 35 = .ok (.iconst 0, 1) := by decide +kernel
theorem dX8_closeGap_36 : decode cX8_closeGap 36 = .ok (.iastore, 1) := by decide +kernel
theorem dX8_closeGap_37 : decode cX8_closeGap 37 = .ok (.iinc 4 1, 3) := by decide +kernel
theorem dX8_closeGap_40 : decode cX8_closeGap 40 = .ok (.goto (-37), 3) := by decide +kernel
theorem dX8_closeGap_43 : decode cX8_closeGap 43 = .ok (.return_, 1) := by decide +kernel
theorem dX8_dropIdleCondition_0 : decode cX8_dropIdleCondition 0 = .ok (.iconst 0, 1) := by decide +kernel
theorem dX8_dropIdleCondition_1 : decode cX8_dropIdleCondition 1 = .ok (.istore_n 1, 1) := by decide +kernel
theorem dX8_dropIdleCondition_2 : decode cX8_dropIdleCondition 2 = .ok (.iload_n 1, 1) := by decide +kernel
theorem dX8_dropIdleCondition_3 : decode cX8_dropIdleCondition 3 = .ok (.bipush 27, 2) := by decide +kernel
theorem dX8_dropIdleCondition_5 : decode cX8_dropIdleCondition 5 = .ok (.if_icmp .ge 49, 3) := by decide +kernel
theorem dX8_dropIdleCondition_8 : decode cX8_dropIdleCondition 8 = .ok (.iload_n 1, 1) := by decide +kernel
theorem dX8_dropIdleCondition_9 : decode cX8_dropIdleCondition 9 = .ok (.iload_n 1, 1) := by decide +kernel
theorem dX8_dropIdleCondition_10 : decode cX8_dropIdleCondition 10 = .ok (.iconst 3, 1) := by decide +kernel
theorem dX8_dropIdleCondition_11 : decode cX8_dropIdleCondition 11 = .ok (.irem, 1) := by decide +kernel
theorem dX8_dropIdleCondition_12 : decode cX8_dropIdleCondition 12 = .ok (.isub, 1) := by decide +kernel
theorem dX8_dropIdleCondition_13 : decode cX8_dropIdleCondition 13 = .ok (.istore_n 2, 1) := by decide +kernel
theorem dX8_dropIdleCondition_14 : decode cX8_dropIdleCondition 14 = .ok (.aload_n 0, 1) := by decide +kernel
theorem dX8_dropIdleCondition_15 : decode cX8_dropIdleCondition 15 = .ok (.getfield 21, 3) := by decide +kernel
theorem dX8_dropIdleCondition_18 : decode cX8_dropIdleCondition 18 = .ok (.iload_n 1, 1) := by decide +kernel
theorem dX8_dropIdleCondition_19 : decode cX8_dropIdleCondition 19 = .ok (.iaload, 1) := by decide +kernel
theorem dX8_dropIdleCondition_20 : decode cX8_dropIdleCondition 20 = .ok (.sipush 8276, 3) := by decide +kernel
theorem dX8_dropIdleCondition_23 : decode cX8_dropIdleCondition 23 = .ok (.if_icmp .ne 25, 3) := by decide +kernel
theorem dX8_dropIdleCondition_26 : decode cX8_dropIdleCondition 26 = .ok (.aload_n 0, 1) := by decide +kernel
theorem dX8_dropIdleCondition_27 : decode cX8_dropIdleCondition 27 = .ok (.getfield 21, 3) := by decide +kernel
theorem dX8_dropIdleCondition_30 : decode cX8_dropIdleCondition 30 = .ok (.iload_n 2, 1) := by decide +kernel
theorem dX8_dropIdleCondition_31 : decode cX8_dropIdleCondition 31 = .ok (.iconst 1, 1) := by decide +kernel
theorem dX8_dropIdleCondition_32 : decode cX8_dropIdleCondition 32 = .ok (.iadd, 1) := by decide +kernel
theorem dX8_dropIdleCondition_33 : decode cX8_dropIdleCondition 33 = .ok (.iaload, 1) := by decide +kernel
theorem dX8_dropIdleCondition_34 : decode cX8_dropIdleCondition 34 = .ok (.ifCond .eq 14, 3) := by decide +kernel
theorem dX8_dropIdleCondition_37 : decode cX8_dropIdleCondition 37 = .ok (.aload_n 0, 1) := by decide +kernel
theorem dX8_dropIdleCondition_38 : decode cX8_dropIdleCondition 38 = .ok (.iload_n 1, 1) := by decide +kernel
theorem dX8_dropIdleCondition_39 : decode cX8_dropIdleCondition 39 = .ok (.iconst 1, 1) := by decide +kernel
theorem dX8_dropIdleCondition_40 : decode cX8_dropIdleCondition 40 = .ok (.iload_n 2, 1) := by decide +kernel
theorem dX8_dropIdleCondition_41 : decode cX8_dropIdleCondition 41 = .ok (.iconst 3, 1) := by decide +kernel
theorem dX8_dropIdleCondition_42 : decode cX8_dropIdleCondition 42 = .ok (.iadd, 1) := by decide +kernel
theorem dX8_dropIdleCondition_43 : decode cX8_dropIdleCondition 43 = .ok (.invokevirtual 46, 3) := by decide +kernel
theorem dX8_dropIdleCondition_46 : decode cX8_dropIdleCondition 46 = .ok (.iconst 1, 1) := by decide +kernel
theorem dX8_dropIdleCondition_47 : decode cX8_dropIdleCondition 47 = .ok (.ireturn, 1) := by decide +kernel
theorem dX8_dropIdleCondition_48 : decode cX8_dropIdleCondition 48 = .ok (.iinc 1 1, 3) := by decide +kernel
theorem dX8_dropIdleCondition_51 : decode cX8_dropIdleCondition 51 = .ok (.goto (-49), 3) := by decide +kernel
theorem dX8_dropIdleCondition_54 : decode cX8_dropIdleCondition 54 = .ok (.iconst 0, 1) := by decide +kernel
theorem dX8_dropIdleCondition_55 : decode cX8_dropIdleCondition 55 = .ok (.ireturn, 1) := by decide +kernel
theorem dX8_dropIdlePredicate_0 : decode cX8_dropIdlePredicate 0 = .ok (.iconst 0, 1) := by decide +kernel
theorem dX8_dropIdlePredicate_1 : decode cX8_dropIdlePredicate 1 = .ok (.istore_n 1, 1) := by decide +kernel
theorem dX8_dropIdlePredicate_2 : decode cX8_dropIdlePredicate 2 = .ok (.iload_n 1, 1) := by decide +kernel
theorem dX8_dropIdlePredicate_3 : decode cX8_dropIdlePredicate 3 = .ok (.bipush 27, 2) := by decide +kernel
theorem dX8_dropIdlePredicate_5 : decode cX8_dropIdlePredicate 5 = .ok (.if_icmp .ge 42, 3) := by decide +kernel
theorem dX8_dropIdlePredicate_8 : decode cX8_dropIdlePredicate 8 = .ok (.aload_n 0, 1) := by decide +kernel
theorem dX8_dropIdlePredicate_9 : decode cX8_dropIdlePredicate 9 = .ok (.getfield 21, 3) := by decide +kernel
theorem dX8_dropIdlePredicate_12 : decode cX8_dropIdlePredicate 12 = .ok (.iload_n 1, 1) := by decide +kernel
theorem dX8_dropIdlePredicate_13 : decode cX8_dropIdlePredicate 13 = .ok (.iaload, 1) := by decide +kernel
theorem dX8_dropIdlePredicate_14 : decode cX8_dropIdlePredicate 14 = .ok (.sipush 8276, 3) := by decide +kernel
theorem dX8_dropIdlePredicate_17 : decode cX8_dropIdlePredicate 17 = .ok (.if_icmp .ne 24, 3) := by decide +kernel
theorem dX8_dropIdlePredicate_20 : decode cX8_dropIdlePredicate 20 = .ok (.aload_n 0, 1) := by decide +kernel
theorem dX8_dropIdlePredicate_21 : decode cX8_dropIdlePredicate 21 = .ok (.getfield 21, 3) := by decide +kernel
theorem dX8_dropIdlePredicate_24 : decode cX8_dropIdlePredicate 24 = .ok (.iload_n 1, 1) := by decide +kernel
theorem dX8_dropIdlePredicate_25 : decode cX8_dropIdlePredicate 25 = .ok (.iconst 1, 1) := by decide +kernel
theorem dX8_dropIdlePredicate_26 : decode cX8_dropIdlePredicate 26 = .ok (.iadd, 1) := by decide +kernel
theorem dX8_dropIdlePredicate_27 : decode cX8_dropIdlePredicate 27 = .ok (.iaload, 1) := by decide +kernel
theorem dX8_dropIdlePredicate_28 : decode cX8_dropIdlePredicate 28 = .ok (.ifCond .ne 13, 3) := by decide +kernel
theorem dX8_dropIdlePredicate_31 : decode cX8_dropIdlePredicate 31 = .ok (.aload_n 0, 1) := by decide +kernel
theorem dX8_dropIdlePredicate_32 : decode cX8_dropIdlePredicate 32 = .ok (.iload_n 1, 1) := by decide +kernel
theorem dX8_dropIdlePredicate_33 : decode cX8_dropIdlePredicate 33 = .ok (.bipush 9, 2) := by decide +kernel
theorem dX8_dropIdlePredicate_35 : decode cX8_dropIdlePredicate 35 = .ok (.idiv, 1) := by decide +kernel
theorem dX8_dropIdlePredicate_36 : decode cX8_dropIdlePredicate 36 = .ok (.invokevirtual 50, 3) := by decide +kernel
theorem dX8_dropIdlePredicate_39 : decode cX8_dropIdlePredicate 39 = .ok (.iconst 1, 1) := by decide +kernel
theorem dX8_dropIdlePredicate_40 : decode cX8_dropIdlePredicate 40 = .ok (.ireturn, 1) := by decide +kernel
theorem dX8_dropIdlePredicate_41 : decode cX8_dropIdlePredicate 41 = .ok (.iinc 1 3, 3) := by decide +kernel
theorem dX8_dropIdlePredicate_44 : decode cX8_dropIdlePredicate 44 = .ok (.goto (-42), 3) := by decide +kernel
theorem dX8_dropIdlePredicate_47 : decode cX8_dropIdlePredicate 47 = .ok (.iconst 0, 1) := by decide +kernel
theorem dX8_dropIdlePredicate_48 : decode cX8_dropIdlePredicate 48 = .ok (.ireturn, 1) := by decide +kernel
theorem dX8_dropRepeatedPredicate_0 : decode cX8_dropRepeatedPredicate 0 = .ok (.iconst 1, 1) := by decide +kernel
theorem dX8_dropRepeatedPredicate_1 : decode cX8_dropRepeatedPredicate 1 = .ok (.istore_n 1, 1) := by decide +kernel
theorem dX8_dropRepeatedPredicate_2 : decode cX8_dropRepeatedPredicate 2 = .ok (.iload_n 1, 1) := by decide +kernel
theorem dX8_dropRepeatedPredicate_3 : decode cX8_dropRepeatedPredicate 3 = .ok (.aload_n 0, 1) := by decide +kernel
theorem dX8_dropRepeatedPredicate_4 : decode cX8_dropRepeatedPredicate 4 = .ok (.getfield 18, 3) := by decide +kernel
theorem dX8_dropRepeatedPredicate_7 : decode cX8_dropRepeatedPredicate 7 = .ok (.if_icmp .ge 24, 3) := by decide +kernel
theorem dX8_dropRepeatedPredicate_10 : decode cX8_dropRepeatedPredicate 10 = .ok (.aload_n 0, 1) := by decide +kernel
theorem dX8_dropRepeatedPredicate_11 : decode cX8_dropRepeatedPredicate 11 = .ok (.iload_n 1, 1) := by decide +kernel
theorem dX8_dropRepeatedPredicate_12 : decode cX8_dropRepeatedPredicate 12 = .ok (.invokevirtual 54, 3) := by decide +kernel
theorem dX8_dropRepeatedPredicate_15 : decode cX8_dropRepeatedPredicate 15 = .ok (.ifCond .eq 10, 3) := by decide +kernel
theorem dX8_dropRepeatedPredicate_18 : decode cX8_dropRepeatedPredicate 18 = .ok (.aload_n 0, 1) := by decide +kernel
theorem dX8_dropRepeatedPredicate_19 : decode cX8_dropRepeatedPredicate 19 = .ok (.iload_n 1, 1) := by decide +kernel
theorem dX8_dropRepeatedPredicate_20 : decode cX8_dropRepeatedPredicate 20 = .ok (.invokevirtual 50, 3) := by decide +kernel
theorem dX8_dropRepeatedPredicate_23 : decode cX8_dropRepeatedPredicate 23 = .ok (.iconst 1, 1) := by decide +kernel
theorem dX8_dropRepeatedPredicate_24 : decode cX8_dropRepeatedPredicate 24 = .ok (.ireturn, 1) := by decide +kernel
theorem dX8_dropRepeatedPredicate_25 : decode cX8_dropRepeatedPredicate 25 = .ok (.iinc 1 1, 3) := by decide +kernel
theorem dX8_dropRepeatedPredicate_28 : decode cX8_dropRepeatedPredicate 28 = .ok (.goto (-26), 3) := by decide +kernel
theorem dX8_dropRepeatedPredicate_31 : decode cX8_dropRepeatedPredicate 31 = .ok (.iconst 0, 1) := by decide +kernel
theorem dX8_dropRepeatedPredicate_32 : decode cX8_dropRepeatedPredicate 32 = .ok (.ireturn, 1) := by decide +kernel
theorem dX8_repeatsOneBefore_0 : decode cX8_repeatsOneBefore 0 = .ok (.iload_n 1, 1) := by decide +kernel
theorem dX8_repeatsOneBefore_1 : decode cX8_repeatsOneBefore 1 = .ok (.bipush 9, 2) := by decide +kernel
theorem dX8_repeatsOneBefore_3 : decode cX8_repeatsOneBefore 3 = .ok (.imul, 1) := by decide +kernel
theorem dX8_repeatsOneBefore_4 : decode cX8_repeatsOneBefore 4 = .ok (.istore_n 2, 1) := by decide +kernel
theorem dX8_repeatsOneBefore_5 : decode cX8_repeatsOneBefore 5 = .ok (.iload_n 2, 1) := by decide +kernel
theorem dX8_repeatsOneBefore_6 : decode cX8_repeatsOneBefore 6 = .ok (.istore_n 3, 1) := by decide +kernel
theorem dX8_repeatsOneBefore_7 : decode cX8_repeatsOneBefore 7 = .ok (.iload_n 3, 1) := by decide +kernel
theorem dX8_repeatsOneBefore_8 : decode cX8_repeatsOneBefore 8 = .ok (.iload_n 2, 1) := by decide +kernel
theorem dX8_repeatsOneBefore_9 : decode cX8_repeatsOneBefore 9 = .ok (.bipush 9, 2) := by decide +kernel
theorem dX8_repeatsOneBefore_11 : decode cX8_repeatsOneBefore 11 = .ok (.iadd, 1) := by decide +kernel
theorem dX8_repeatsOneBefore_12 : decode cX8_repeatsOneBefore 12 = .ok (.if_icmp .ge 46, 3) := by decide +kernel
theorem dX8_repeatsOneBefore_15 : decode cX8_repeatsOneBefore 15 = .ok (.iload_n 3, 1) := by decide +kernel
theorem dX8_repeatsOneBefore_16 : decode cX8_repeatsOneBefore 16 = .ok (.bipush 27, 2) := by decide +kernel
theorem dX8_repeatsOneBefore_18 : decode cX8_repeatsOneBefore 18 = .ok (.if_icmp .ge 40, 3) := by decide +kernel
theorem dX8_repeatsOneBefore_21 : decode cX8_repeatsOneBefore 21 = .ok (.aload_n 0, 1) := by decide +kernel
theorem dX8_repeatsOneBefore_22 : decode cX8_repeatsOneBefore 22 = .ok (.getfield 21, 3) := by decide +kernel
theorem dX8_repeatsOneBefore_25 : decode cX8_repeatsOneBefore 25 = .ok (.iload_n 3, 1) := by decide +kernel
theorem dX8_repeatsOneBefore_26 : decode cX8_repeatsOneBefore 26 = .ok (.iaload, 1) := by decide +kernel
theorem dX8_repeatsOneBefore_27 : decode cX8_repeatsOneBefore 27 = .ok (.aload_n 0, 1) := by decide +kernel
theorem dX8_repeatsOneBefore_28 : decode cX8_repeatsOneBefore 28 = .ok (.iload_n 3, 1) := by decide +kernel
theorem dX8_repeatsOneBefore_29 : decode cX8_repeatsOneBefore 29 = .ok (.bipush 9, 2) := by decide +kernel
theorem dX8_repeatsOneBefore_31 : decode cX8_repeatsOneBefore 31 = .ok (.isub, 1) := by decide +kernel
theorem dX8_repeatsOneBefore_32 : decode cX8_repeatsOneBefore 32 = .ok (.invokevirtual 57, 3) := by decide +kernel
theorem dX8_repeatsOneBefore_35 : decode cX8_repeatsOneBefore 35 = .ok (.if_icmp .ne 15, 3) := by decide +kernel
theorem dX8_repeatsOneBefore_38 : decode cX8_repeatsOneBefore 38 = .ok (.aload_n 0, 1) := by decide +kernel
theorem dX8_repeatsOneBefore_39 : decode cX8_repeatsOneBefore 39 = .ok (.getfield 21, 3) := by decide +kernel
theorem dX8_repeatsOneBefore_42 : decode cX8_repeatsOneBefore 42 = .ok (.iload_n 3, 1) := by decide +kernel
theorem dX8_repeatsOneBefore_43 : decode cX8_repeatsOneBefore 43 = .ok (.iaload, 1) := by decide +kernel
theorem dX8_repeatsOneBefore_44 : decode cX8_repeatsOneBefore 44 = .ok (.invokestatic 43, 3) := by decide +kernel
theorem dX8_repeatsOneBefore_47 : decode cX8_repeatsOneBefore 47 = .ok (.ifCond .eq 5, 3) := by decide +kernel
theorem dX8_repeatsOneBefore_50 : decode cX8_repeatsOneBefore 50 = .ok (.iconst 0, 1) := by decide +kernel
theorem dX8_repeatsOneBefore_51 : decode cX8_repeatsOneBefore 51 = .ok (.ireturn, 1) := by decide +kernel
theorem dX8_repeatsOneBefore_52 : decode cX8_repeatsOneBefore 52 = .ok (.iinc 3 1, 3) := by decide +kernel
theorem dX8_repeatsOneBefore_55 : decode cX8_repeatsOneBefore 55 = .ok (.goto (-48), 3) := by decide +kernel
theorem dX8_repeatsOneBefore_58 : decode cX8_repeatsOneBefore 58 = .ok (.iconst 1, 1) := by decide +kernel
theorem dX8_repeatsOneBefore_59 : decode cX8_repeatsOneBefore 59 = .ok (.ireturn, 1) := by decide +kernel
theorem dX8_writeTo_0 : decode cX8_writeTo 0 = .ok (.aload_n 1, 1) := by decide +kernel
theorem dX8_writeTo_1 : decode cX8_writeTo 1 = .ok (.aload_n 0, 1) := by decide +kernel
theorem dX8_writeTo_2 : decode cX8_writeTo 2 = .ok (.getfield 9, 3) := by decide +kernel
theorem dX8_writeTo_5 : decode cX8_writeTo 5 = .ok (.aload_n 0, 1) := by decide +kernel
theorem dX8_writeTo_6 : decode cX8_writeTo 6 = .ok (.getfield 15, 3) := by decide +kernel
theorem dX8_writeTo_9 : decode cX8_writeTo 9 = .ok (.invokevirtual 61, 3) := by decide +kernel
theorem dX8_writeTo_12 : decode cX8_writeTo 12 = .ok (.iconst 0, 1) := by decide +kernel
theorem dX8_writeTo_13 : decode cX8_writeTo 13 = .ok (.istore_n 2, 1) := by decide +kernel
theorem dX8_writeTo_14 : decode cX8_writeTo 14 = .ok (.iload_n 2, 1) := by decide +kernel
theorem dX8_writeTo_15 : decode cX8_writeTo 15 = .ok (.aload_n 0, 1) := by decide +kernel
theorem dX8_writeTo_16 : decode cX8_writeTo 16 = .ok (.getfield 18, 3) := by decide +kernel
theorem dX8_writeTo_19 : decode cX8_writeTo 19 = .ok (.bipush 9, 2) := by decide +kernel
theorem dX8_writeTo_21 : decode cX8_writeTo 21 = .ok (.imul, 1) := by decide +kernel
theorem dX8_writeTo_22 : decode cX8_writeTo 22 = .ok (.if_icmp .ge 82, 3) := by decide +kernel
theorem dX8_writeTo_25 : decode cX8_writeTo 25 = .ok (.iload_n 2, 1) := by decide +kernel
theorem dX8_writeTo_26 : decode cX8_writeTo 26 = .ok (.bipush 27, 2) := by decide +kernel
theorem dX8_writeTo_28 : decode cX8_writeTo 28 = .ok (.if_icmp .ge 76, 3) := by decide +kernel
theorem dX8_writeTo_31 : decode cX8_writeTo 31 = .ok (.iload_n 2, 1) := by decide +kernel
theorem dX8_writeTo_32 : decode cX8_writeTo 32 = .ok (.bipush 9, 2) := by decide +kernel
theorem dX8_writeTo_34 : decode cX8_writeTo 34 = .ok (.irem, 1) := by decide +kernel
theorem dX8_writeTo_35 : decode cX8_writeTo 35 = .ok (.istore_n 3, 1) := by decide +kernel
theorem dX8_writeTo_36 : decode cX8_writeTo 36 = .ok (.iload_n 3, 1) := by decide +kernel
theorem dX8_writeTo_37 : decode cX8_writeTo 37 = .ok (.ifCond .ne 9, 3) := by decide +kernel
theorem dX8_writeTo_40 : decode cX8_writeTo 40 = .ok (.aload_n 1, 1) := by decide +kernel
theorem dX8_writeTo_41 : decode cX8_writeTo 41 = .ok (.bipush 91, 2) := by decide +kernel
theorem dX8_writeTo_43 : decode cX8_writeTo 43 = .ok (.invokevirtual 67, 3) := by decide +kernel
theorem dX8_writeTo_46 : decode cX8_writeTo 46 = .ok (.aload_n 0, 1) := by decide +kernel
theorem dX8_writeTo_47 : decode cX8_writeTo 47 = .ok (.getfield 21, 3) := by decide +kernel
theorem dX8_writeTo_50 : decode cX8_writeTo 50 = .ok (.iload_n 2, 1) := by decide +kernel
theorem dX8_writeTo_51 : decode cX8_writeTo 51 = .ok (.iaload, 1) := by decide +kernel
