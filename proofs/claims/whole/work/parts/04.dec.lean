theorem dX8_writeTo_52 : decode cX8_writeTo 52 = .ok (.ifCond .eq 34, 3) := by decide +kernel
theorem dX8_writeTo_55 : decode cX8_writeTo 55 = .ok (.iload_n 3, 1) := by decide +kernel
theorem dX8_writeTo_56 : decode cX8_writeTo 56 = .ok (.ifCond .le 20, 3) := by decide +kernel
theorem dX8_writeTo_59 : decode cX8_writeTo 59 = .ok (.aload_n 1, 1) := by decide +kernel
theorem dX8_writeTo_60 : decode cX8_writeTo 60 = .ok (.iload_n 3, 1) := by decide +kernel
theorem dX8_writeTo_61 : decode cX8_writeTo 61 = .ok (.iconst 3, 1) := by decide +kernel
theorem dX8_writeTo_62 : decode cX8_writeTo 62 = .ok (.irem, 1) := by decide +kernel
theorem dX8_writeTo_63 : decode cX8_writeTo 63 = .ok (.ifCond .ne 8, 3) := by decide +kernel
theorem dX8_writeTo_66 : decode cX8_writeTo 66 = .ok (.bipush 43, 2) := by decide +kernel
theorem dX8_writeTo_68 : decode cX8_writeTo 68 = .ok (.goto 5, 3) := by decide +kernel
theorem dX8_writeTo_71 : decode cX8_writeTo 71 = .ok (.bipush 44, 2) := by decide +kernel
theorem dX8_writeTo_73 : decode cX8_writeTo 73 = .ok (.invokevirtual 67, 3) := by decide +kernel
theorem dX8_writeTo_76 : decode cX8_writeTo 76 = .ok (.aload_n 1, 1) := by decide +kernel
theorem dX8_writeTo_77 : decode cX8_writeTo 77 = .ok (.aload_n 0, 1) := by decide +kernel
theorem dX8_writeTo_78 : decode cX8_writeTo 78 = .ok (.getfield 21, 3) := by decide +kernel
theorem dX8_writeTo_81 : decode cX8_writeTo 81 = .ok (.iload_n 2, 1) := by decide +kernel
theorem dX8_writeTo_82 : decode cX8_writeTo 82 = .ok (.iaload, 1) := by decide +kernel
theorem dX8_writeTo_83 : decode cX8_writeTo 83 = .ok (.invokestatic 70, 3) := by decide +kernel
theorem dX8_writeTo_86 : decode cX8_writeTo 86 = .ok (.iload_n 3, 1) := by decide +kernel
theorem dX8_writeTo_87 : decode cX8_writeTo 87 = .ok (.bipush 8, 2) := by decide +kernel
theorem dX8_writeTo_89 : decode cX8_writeTo 89 = .ok (.if_icmp .ne 9, 3) := by decide +kernel
theorem dX8_writeTo_92 : decode cX8_writeTo 92 = .ok (.aload_n 1, 1) := by decide +kernel
theorem dX8_writeTo_93 : decode cX8_writeTo 93 = .ok (.bipush 93, 2) := by decide +kernel
theorem dX8_writeTo_95 : decode cX8_writeTo 95 = .ok (.invokevirtual 67, 3) := by decide +kernel
theorem dX8_writeTo_98 : decode cX8_writeTo 98 = .ok (.iinc 2 1, 3) := by decide +kernel
theorem dX8_writeTo_101 : decode cX8_writeTo 101 = .ok (.goto (-87), 3) := by decide +kernel
theorem dX8_writeTo_104 : decode cX8_writeTo 104 = .ok (.return_, 1) := by decide +kernel
theorem dX9_init_0 : decode cX9_init 0 = .ok (.aload_n 0, 1) := by decide +kernel
theorem dX9_init_1 : decode cX9_init 1 = .ok (.invokespecial 3, 3) := by decide +kernel
theorem dX9_init_4 : decode cX9_init 4 = .ok (.aload_n 0, 1) := by decide +kernel
theorem dX9_init_5 : decode cX9_init 5 = .ok (.iconst 0, 1) := by decide +kernel
theorem dX9_init_6 : decode cX9_init 6 = .ok (.putfield 9, 3) := by decide +kernel
theorem dX9_init_9 : decode cX9_init 9 = .ok (.aload_n 0, 1) := by decide +kernel
theorem dX9_init_10 : decode cX9_init 10 = .ok (.iload_n 1, 1) := by decide +kernel
theorem dX9_init_11 : decode cX9_init 11 = .ok (.ifCond .le 7, 3) := by decide +kernel
theorem dX9_init_14 : decode cX9_init 14 = .ok (.iload_n 1, 1) := by decide +kernel
theorem dX9_init_15 : decode cX9_init 15 = .ok (.goto 4, 3) := by decide +kernel
theorem dX9_init_18 : decode cX9_init 18 = .ok (.iconst 0, 1) := by decide +kernel
theorem dX9_init_19 : decode cX9_init 19 = .ok (.newarray .byte, 2) := by decide +kernel
theorem dX9_init_21 : decode cX9_init 21 = .ok (.putfield 15, 3) := by decide +kernel
theorem dX9_init_24 : decode cX9_init 24 = .ok (.return_, 1) := by decide +kernel
theorem dX9_put_0 : decode cX9_put 0 = .ok (.aload_n 0, 1) := by decide +kernel
theorem dX9_put_1 : decode cX9_put 1 = .ok (.getfield 9, 3) := by decide +kernel
theorem dX9_put_4 : decode cX9_put 4 = .ok (.ifCond .lt 36, 3) := by decide +kernel
theorem dX9_put_7 : decode cX9_put 7 = .ok (.aload_n 0, 1) := by decide +kernel
theorem dX9_put_8 : decode cX9_put 8 = .ok (.getfield 9, 3) := by decide +kernel
theorem dX9_put_11 : decode cX9_put 11 = .ok (.aload_n 0, 1) := by decide +kernel
theorem dX9_put_12 : decode cX9_put 12 = .ok (.getfield 15, 3) := by decide +kernel
theorem dX9_put_15 : decode cX9_put 15 = .ok (.arraylength, 1) := by decide +kernel
theorem dX9_put_16 : decode cX9_put 16 = .ok (.if_icmp .ge 24, 3) := by decide +kernel
theorem dX9_put_19 : decode cX9_put 19 = .ok (.aload_n 0, 1) := by decide +kernel
theorem dX9_put_20 : decode cX9_put 20 = .ok (.getfield 15, 3) := by decide +kernel
theorem dX9_put_23 : decode cX9_put 23 = .ok (.aload_n 0, 1) := by decide +kernel
theorem dX9_put_24 : decode cX9_put 24 = .ok (.getfield 9, 3) := by decide +kernel
theorem dX9_put_27 : decode cX9_put 27 = .ok (.iload_n 1, 1) := by decide +kernel
theorem dX9_put_28 : decode cX9_put 28 = .ok (.i2b, 1) := by decide +kernel
theorem dX9_put_29 : decode cX9_put 29 = .ok (.bastore, 1) := by decide +kernel
theorem dX9_put_30 : decode cX9_put 30 = .ok (.aload_n 0, 1) := by decide +kernel
theorem dX9_put_31 : decode cX9_put 31 = .ok (.dup, 1) := by decide +kernel
theorem dX9_put_32 : decode cX9_put 32 = .ok (.getfield 9, 3) := by decide +kernel
theorem dX9_put_35 : decode cX9_put 35 = .ok (.iconst 1, 1) := by decide +kernel
theorem dX9_put_36 : decode cX9_put 36 = .ok (.iadd, 1) := by decide +kernel
theorem dX9_put_37 : decode cX9_put 37 = .ok (.putfield 9, 3) := by decide +kernel
theorem dX9_put_40 : decode cX9_put 40 = .ok (.return_, 1) := by decide +kernel
theorem dX9_at_0 : decode cX9_at 0 = .ok (.iload_n 1, 1) := by decide +kernel
theorem dX9_at_1 : decode cX9_at 1 = .ok (.ifCond .lt 21, 3) := by decide +kernel
theorem dX9_at_4 : decode cX9_at 4 = .ok (.iload_n 1, 1) := by decide +kernel
theorem dX9_at_5 : decode cX9_at 5 = .ok (.aload_n 0, 1) := by decide +kernel
theorem dX9_at_6 : decode cX9_at 6 = .ok (.getfield 15, 3) := by decide +kernel
theorem dX9_at_9 : decode cX9_at 9 = .ok (.arraylength, 1) := by decide +kernel
theorem dX9_at_10 : decode cX9_at 10 = .ok (.if_icmp .ge 12, 3) := by decide +kernel
theorem dX9_at_13 : decode cX9_at 13 = .ok (.aload_n 0, 1) := by decide +kernel
theorem dX9_at_14 : decode cX9_at 14 = .ok (.getfield 15, 3) := by decide +kernel
theorem dX9_at_17 : decode cX9_at 17 = .ok (.iload_n 1, 1) := by decide +kernel
theorem dX9_at_18 : decode cX9_at 18 = .ok (.baload, 1) := by decide +kernel
theorem dX9_at_19 : decode cX9_at 19 = .ok (.goto 4, 3) := by decide +kernel
theorem dX9_at_22 : decode cX9_at 22 = .ok (.iconst (-1), 1) := by decide +kernel
theorem dX9_at_23 : decode cX9_at 23 = .ok (.ireturn, 1) := by decide +kernel
theorem dX9_putTest_0 : decode cX9_putTest 0 = .ok (.iload_n 1, 1) := by decide +kernel
theorem dX9_putTest_1 : decode cX9_putTest 1 = .ok (.iconst 1, 1) := by decide +kernel
theorem dX9_putTest_2 : decode cX9_putTest 2 = .ok (.if_icmp .lt 21, 3) := by decide +kernel
theorem dX9_putTest_5 : decode cX9_putTest 5 = .ok (.iload_n 1, 1) := by decide +kernel
theorem dX9_putTest_6 : decode cX9_putTest 6 = .ok (.bipush 9, 2) := by decide +kernel
theorem dX9_putTest_8 : decode cX9_putTest 8 = .ok (.if_icmp .gt 15, 3) := by decide +kernel
theorem dX9_putTest_11 : decode cX9_putTest 11 = .ok (.aload_n 0, 1) := by decide +kernel
theorem dX9_putTest_12 : decode cX9_putTest 12 = .ok (.ldc 19, 2) := by decide +kernel
theorem dX9_putTest_14 : decode cX9_putTest 14 = .ok (.iload_n 1, 1) := by decide +kernel
theorem dX9_putTest_15 : decode cX9_putTest 15 = .ok (.iconst 1, 1) := by decide +kernel
theorem dX9_putTest_16 : decode cX9_putTest 16 = .ok (.isub, 1) := by decide +kernel
theorem dX9_putTest_17 : decode cX9_putTest 17 = .ok (.invokevirtual 21, 3) := by decide +kernel
theorem dX9_putTest_20 : decode cX9_putTest 20 = .ok (.invokevirtual 27, 3) := by decide +kernel
theorem dX9_putTest_23 : decode cX9_putTest 23 = .ok (.aload_n 0, 1) := by decide +kernel
theorem dX9_putTest_24 : decode cX9_putTest 24 = .ok (.iload_n 2, 1) := by decide +kernel
theorem dX9_putTest_25 : decode cX9_putTest 25 = .ok (.bipush 8, 2) := by decide +kernel
theorem dX9_putTest_27 : decode cX9_putTest 27 = .ok (.if_icmp .ne 8, 3) := by decide +kernel
theorem dX9_putTest_30 : decode cX9_putTest 30 = .ok (.bipush 42, 2) := by decide +kernel
theorem dX9_putTest_32 : decode cX9_putTest 32 = .ok (.goto 7, 3) := by decide +kernel
theorem dX9_putTest_35 : decode cX9_putTest 35 = .ok (.bipush 97, 2) := by decide +kernel
theorem dX9_putTest_37 : decode cX9_putTest 37 = .ok (.iload_n 2, 1) := by decide +kernel
theorem dX9_putTest_38 : decode cX9_putTest 38 = .ok (.iadd, 1) := by decide +kernel
theorem dX9_putTest_39 : decode cX9_putTest 39 = .ok (.invokevirtual 27, 3) := by decide +kernel
theorem dX9_putTest_42 : decode cX9_putTest 42 = .ok (.return_, 1) := by decide +kernel
theorem dX10_init_0 : decode cX10_init 0 = .ok (.aload_n 0, 1) := by decide +kernel
theorem dX10_init_1 : decode cX10_init 1 = .ok (.invokespecial 3, 3) := by decide +kernel
theorem dX10_init_4 : decode cX10_init 4 = .ok (.aload_n 0, 1) := by decide +kernel
theorem dX10_init_5 : decode cX10_init 5 = .ok (.iconst 1, 1) := by decide +kernel
theorem dX10_init_6 : decode cX10_init 6 = .ok (.putfield 9, 3) := by decide +kernel
theorem dX10_init_9 : decode cX10_init 9 = .ok (.aload_n 0, 1) := by decide +kernel
theorem dX10_init_10 : decode cX10_init 10 = .ok (.bipush 40, 2) := by decide +kernel
theorem dX10_init_12 : decode cX10_init 12 = .ok (.newarray .int, 2) := by decide +kernel
theorem dX10_init_14 : decode cX10_init 14 = .ok (.putfield 15, 3) := by decide +kernel
theorem dX10_init_17 : decode cX10_init 17 = .ok (.aload_n 0, 1) := by decide +kernel
theorem dX10_init_18 : decode cX10_init 18 = .ok (.bipush 40, 2) := by decide +kernel
theorem dX10_init_20 : decode cX10_init 20 = .ok (.newarray .int, 2) := by decide +kernel
theorem dX10_init_22 : decode cX10_init 22 = .ok (.putfield 19, 3) := by decide +kernel
theorem dX10_init_25 : decode cX10_init 25 = .ok (.aload_n 0, 1) := by decide +kernel
theorem dX10_init_26 : decode cX10_init 26 = .ok (.bipush 40, 2) := by decide +kernel
theorem dX10_init_28 : decode cX10_init 28 = .ok (.newarray .int, 2) := by decide +kernel
theorem dX10_init_30 : decode cX10_init 30 = .ok (.putfield 22, 3) := by decide +kernel
theorem dX10_init_33 : decode cX10_init 33 = .ok (.aload_n 0, 1) := by decide +kernel
theorem dX10_init_34 : decode cX10_init 34 = .ok (.bipush 40, 2) := by decide +kernel
theorem dX10_init_36 : decode cX10_init 36 = .ok (.newarray .int, 2) := by decide +kernel
theorem dX10_init_38 : decode cX10_init 38 = .ok (.putfield 25, 3) := by decide +kernel
theorem dX10_init_41 : decode cX10_init 41 = .ok (.aload_n 0, 1) := by decide +kernel
theorem dX10_init_42 : decode cX10_init 42 = .ok (.bipush 40, 2) := by decide +kernel
theorem dX10_init_44 : decode cX10_init 44 = .ok (.newarray .long, 2) := by decide +kernel
theorem dX10_init_46 : decode cX10_init 46 = .ok (.putfield 28, 3) := by decide +kernel
theorem dX10_init_49 : decode cX10_init 49 = .ok (.aload_n 0, 1) := by decide +kernel
theorem dX10_init_50 : decode cX10_init 50 = .ok (.bipush 40, 2) := by decide +kernel
theorem dX10_init_52 : decode cX10_init 52 = .ok (.newarray .long, 2) := by decide +kernel
theorem dX10_init_54 : decode cX10_init 54 = .ok (.putfield 32, 3) := by decide +kernel
theorem dX10_init_57 : decode cX10_init 57 = .ok (.aload_n 0, 1) := by decide +kernel
theorem dX10_init_58 : decode cX10_init 58 = .ok (.bipush 40, 2) := by decide +kernel
theorem dX10_init_60 : decode cX10_init 60 = .ok (.newarray .int, 2) := by decide +kernel
theorem dX10_init_62 : decode cX10_init 62 = .ok (.putfield 35, 3) := by decide +kernel
theorem dX10_init_65 : decode cX10_init 65 = .ok (.aload_n 0, 1) := by decide +kernel
theorem dX10_init_66 : decode cX10_init 66 = .ok (.bipush 40, 2) := by decide +kernel
theorem dX10_init_68 : decode cX10_init 68 = .ok (.newarray .int, 2) := by decide +kernel
theorem dX10_init_70 : decode cX10_init 70 = .ok (.putfield 38, 3) := by decide +kernel
theorem dX10_init_73 : decode cX10_init 73 = .ok (.aload_n 0, 1) := by decide +kernel
theorem dX10_init_74 : decode cX10_init 74 = .ok (.bipush 40, 2) := by decide +kernel
theorem dX10_init_76 : decode cX10_init 76 = .ok (.newarray .int, 2) := by decide +kernel
theorem dX10_init_78 : decode cX10_init 78 = .ok (.putfield 41, 3) := by decide +kernel
theorem dX10_init_81 : decode cX10_init 81 = .ok (.aload_n 0, 1) := by decide +kernel
theorem dX10_init_82 : decode cX10_init 82 = .ok (.getfield 22, 3) := by decide +kernel
theorem dX10_init_85 : decode cX10_init 85 = .ok (.iconst 0, 1) := by decide +kernel
theorem dX10_init_86 : decode cX10_init 86 = .ok (.iconst (-1), 1) := by decide +kernel
theorem dX10_init_87 : decode cX10_init 87 = .ok (.iastore, 1) := by decide +kernel
theorem dX10_init_88 : decode cX10_init 88 = .ok (.return_, 1) := by decide +kernel
theorem dX10_copyFrom_0 : decode cX10_copyFrom 0 = .ok (.aload_n 0, 1) := by decide +kernel
theorem dX10_copyFrom_1 : decode cX10_copyFrom 1 = .ok (.aload_n 1, 1) := by decide +kernel
theorem dX10_copyFrom_2 : decode cX10_copyFrom 2 = .ok (.getfield 9, 3) := by decide +kernel
theorem dX10_copyFrom_5 : decode cX10_copyFrom 5 = .ok (.putfield 9, 3) := by decide +kernel
theorem dX10_copyFrom_8 : decode cX10_copyFrom 8 = .ok (.aload_n 1, 1) := by decide +kernel
theorem dX10_copyFrom_9 : decode cX10_copyFrom 9 = .ok (.getfield 15, 3) := by decide +kernel
theorem dX10_copyFrom_12 : decode cX10_copyFrom 12 = .ok (.iconst 0, 1) := by decide +kernel
theorem dX10_copyFrom_13 : decode cX10_copyFrom 13 = .ok (.aload_n 0, 1) := by decide +kernel
theorem dX10_copyFrom_14 : decode cX10_copyFrom 14 = .ok (.getfield 15, 3) := by decide +kernel
theorem dX10_copyFrom_17 : decode cX10_copyFrom 17 = .ok (.iconst 0, 1) := by decide +kernel
theorem dX10_copyFrom_18 : decode cX10_copyFrom 18 = .ok (.bipush 40, 2) := by decide +kernel
theorem dX10_copyFrom_20 : decode cX10_copyFrom 20 = .ok (.invokestatic 44, 3) := by decide +kernel
theorem dX10_copyFrom_23 : decode cX10_copyFrom 23 = .ok (.aload_n 1, 1) := by decide +kernel
theorem dX10_copyFrom_24 : decode cX10_copyFrom 24 = .ok (.getfield 19, 3) := by decide +kernel
theorem dX10_copyFrom_27 : decode cX10_copyFrom 27 = .ok (.iconst 0, 1) := by decide +kernel
theorem dX10_copyFrom_28 : decode cX10_copyFrom 28 = .ok (.aload_n 0, 1) := by decide +kernel
theorem dX10_copyFrom_29 : decode cX10_copyFrom 29 = .ok (.getfield 19, 3) := by decide +kernel
theorem dX10_copyFrom_32 : decode cX10_copyFrom 32 = .ok (.iconst 0, 1) := by decide +kernel
theorem dX10_copyFrom_33 : decode cX10_copyFrom 33 = .ok (.bipush 40, 2) := by decide +kernel
theorem dX10_copyFrom_35 : decode cX10_copyFrom 35 = .ok (.invokestatic 44, 3) := by decide +kernel
theorem dX10_copyFrom_38 : decode cX10_copyFrom 38 = .ok (.aload_n 1, 1) := by decide +kernel
theorem dX10_copyFrom_39 : decode cX10_copyFrom 39 = .ok (.getfield 22, 3) := by decide +kernel
theorem dX10_copyFrom_42 : decode cX10_copyFrom 42 = .ok (.iconst 0, 1) := by decide +kernel
theorem dX10_copyFrom_43 : decode cX10_copyFrom 43 = .ok (.aload_n 0, 1) := by decide +kernel
theorem dX10_copyFrom_44 : decode cX10_copyFrom 44 = .ok (.getfield 22, 3) := by decide +kernel
theorem dX10_copyFrom_47 : decode cX10_copyFrom 47 = .ok (.iconst 0, 1) := by decide +kernel
theorem dX10_copyFrom_48 : decode cX10_copyFrom 48 = .ok (.bipush 40, 2) := by decide +kernel
theorem dX10_copyFrom_50 : decode cX10_copyFrom 50 = .ok (.invokestatic 44, 3) := by decide +kernel
theorem dX10_copyFrom_53 : decode cX10_copyFrom 53 = .ok (.aload_n 1, 1) := by decide +kernel
theorem dX10_copyFrom_54 : decode cX10_copyFrom 54 = .ok (.getfield 25, 3) := by decide +kernel
theorem dX10_copyFrom_57 : decode cX10_copyFrom 57 = .ok (.iconst 0, 1) := by decide +kernel
theorem dX10_copyFrom_58 : decode cX10_copyFrom 58 = .ok (.aload_n 0, 1) := by decide +kernel
theorem dX10_copyFrom_59 : decode cX10_copyFrom 59 = .ok (.getfield 25, 3) := by decide +kernel
theorem dX10_copyFrom_62 : decode cX10_copyFrom 62 = .ok (.iconst 0, 1) := by decide +kernel
theorem dX10_copyFrom_63 : decode cX10_copyFrom 63 = .ok (.bipush 40, 2) := by decide +kernel
theorem dX10_copyFrom_65 : decode cX10_copyFrom 65 = .ok (.invokestatic 44, 3) := by decide +kernel
theorem dX10_copyFrom_68 : decode cX10_copyFrom 68 = .ok (.aload_n 1, 1) := by decide +kernel
theorem dX10_copyFrom_69 : decode cX10_copyFrom 69 = .ok (.getfield 28, 3) := by decide +kernel
theorem dX10_copyFrom_72 : decode cX10_copyFrom 72 = .ok (.iconst 0, 1) := by decide +kernel
theorem dX10_copyFrom_73 : decode cX10_copyFrom 73 = .ok (.aload_n 0, 1) := by decide +kernel
theorem dX10_copyFrom_74 : decode cX10_copyFrom 74 = .ok (.getfield 28, 3) := by decide +kernel
theorem dX10_copyFrom_77 : decode cX10_copyFrom 77 = .ok (.iconst 0, 1) := by decide +kernel
theorem dX10_copyFrom_78 : decode cX10_copyFrom 78 = .ok (.bipush 40, 2) := by decide +kernel
theorem dX10_copyFrom_80 : decode cX10_copyFrom 80 = .ok (.invokestatic 44, 3) := by decide +kernel
theorem dX10_copyFrom_83 : decode cX10_copyFrom 83 = .ok (.aload_n 1, 1) := by decide +kernel
theorem dX10_copyFrom_84 : decode cX10_copyFrom 84 = .ok (.getfield 32, 3) := by decide +kernel
theorem dX10_copyFrom_87 : decode cX10_copyFrom 87 = .ok (.iconst 0, 1) := by decide +kernel
theorem dX10_copyFrom_88 : decode cX10_copyFrom 88 = .ok (.aload_n 0, 1) := by decide +kernel
theorem dX10_copyFrom_89 : decode cX10_copyFrom 89 = .ok (.getfield 32, 3) := by decide +kernel
theorem dX10_copyFrom_92 : decode cX10_copyFrom 92 = .ok (.iconst 0, 1) := by decide +kernel
theorem dX10_copyFrom_93 : decode cX10_copyFrom 93 = .ok (.bipush 40, 2) := by decide +kernel
theorem dX10_copyFrom_95 : decode cX10_copyFrom 95 = .ok (.invokestatic 44, 3) := by decide +kernel
theorem dX10_copyFrom_98 : decode cX10_copyFrom 98 = .ok (.return_, 1) := by decide +kernel
theorem dX10_append_0 : decode cX10_append 0 = .ok (.aload_n 0, 1) := by decide +kernel
theorem dX10_append_1 : decode cX10_append 1 = .ok (.getfield 9, 3) := by decide +kernel
theorem dX10_append_4 : decode cX10_append 4 = .ok (.istore 4, 2) := by decide +kernel
theorem dX10_append_6 : decode cX10_append 6 = .ok (.iload 4, 2) := by decide +kernel
theorem dX10_append_8 : decode cX10_append 8 = .ok (.bipush 40, 2) := by decide +kernel
theorem dX10_append_10 : decode cX10_append 10 = .ok (.if_icmp .lt 5, 3) := by decide +kernel
theorem dX10_append_13 : decode cX10_append 13 = .ok (.iconst (-1), 1) := by decide +kernel
theorem dX10_append_14 : decode cX10_append 14 = .ok (.ireturn, 1) := by decide +kernel
theorem dX10_append_15 : decode cX10_append 15 = .ok (.aload_n 0, 1) := by decide +kernel
theorem dX10_append_16 : decode cX10_append 16 = .ok (.getfield 15, 3) := by decide +kernel
theorem dX10_append_19 : decode cX10_append 19 = .ok (.iload 4, 2) := by decide +kernel
theorem dX10_append_21 : decode cX10_append 21 = .ok (.iload_n 2, 1) := by decide +kernel
theorem dX10_append_22 : decode cX10_append 22 = .ok (.iastore, 1) := by decide +kernel
theorem dX10_append_23 : decode cX10_append 23 = .ok (.aload_n 0, 1) := by decide +kernel
theorem dX10_append_24 : decode cX10_append 24 = .ok (.getfield 19, 3) := by decide +kernel
theorem dX10_append_27 : decode cX10_append 27 = .ok (.iload 4, 2) := by decide +kernel
theorem dX10_append_29 : decode cX10_append 29 = .ok (.iload_n 3, 1) := by decide +kernel
theorem dX10_append_30 : decode cX10_append 30 = .ok (.iastore, 1) := by decide +kernel
theorem dX10_append_31 : decode cX10_append 31 = .ok (.aload_n 0, 1) := by decide +kernel
theorem dX10_append_32 : decode cX10_append 32 = .ok (.getfield 22, 3) := by decide +kernel
theorem dX10_append_35 : decode cX10_append 35 = .ok (.iload 4, 2) := by decide +kernel
theorem dX10_append_37 : decode cX10_append 37 = .ok (.iload_n 1, 1) := by decide +kernel
theorem dX10_append_38 : decode cX10_append 38 = .ok (.iastore, 1) := by decide +kernel
theorem dX10_append_39 : decode cX10_append 39 = .ok (.aload_n 0, 1) := by decide +kernel
theorem dX10_append_40 : decode cX10_append 40 = .ok (.dup, 1) := by decide +kernel
theorem dX10_append_41 : decode cX10_append 41 = .ok (.getfield 9, 3) := by decide +kernel
theorem dX10_append_44 : decode cX10_append 44 = .ok (.iconst 1, 1) := by decide +kernel
theorem dX10_append_45 : decode cX10_append 45 = .ok (.iadd, 1) := by decide +kernel
theorem dX10_append_46 : decode cX10_append 46 = .ok (.putfield 9, 3) := by decide +kernel
theorem dX10_append_49 : decode cX10_append 49 = .ok (.aload_n 0, 1) := by decide +kernel
theorem dX10_append_50 : decode cX10_append 50 = .ok (.iload 4, 2) := by decide +kernel
theorem dX10_append_52 : decode cX10_append 52 = .ok (.iload 4, 2) := by decide +kernel
theorem dX10_append_54 : decode cX10_append 54 = .ok (.iconst 1, 1) := by decide +kernel
theorem dX10_append_55 : decode cX10_append 55 = .ok (.iadd, 1) := by decide +kernel
theorem dX10_append_56 : decode cX10_append 56 = .ok (.aload_n 0, 1) := by decide +kernel
theorem dX10_append_57 : decode cX10_append 57 = .ok (.getfield 25, 3) := by decide +kernel
theorem dX10_append_60 : decode cX10_append 60 = .ok (.iload_n 1, 1) := by decide +kernel
theorem dX10_append_61 : decode cX10_append 61 = .ok (.iaload, 1) := by decide +kernel
theorem dX10_append_62 : decode cX10_append 62 = .ok (.invokevirtual 50, 3) := by decide +kernel
theorem dX10_append_65 : decode cX10_append 65 = .ok (.pop, 1) := by decide +kernel
theorem dX10_append_66 : decode cX10_append 66 = .ok (.aload_n 0, 1) := by decide +kernel
theorem dX10_append_67 : decode cX10_append 67 = .ok (.getfield 38, 3) := by decide +kernel
theorem dX10_append_70 : decode cX10_append 70 = .ok (.iload 4, 2) := by decide +kernel
theorem dX10_append_72 : decode cX10_append 72 = .ok (.iaload, 1) := by decide +kernel
theorem dX10_append_73 : decode cX10_append 73 = .ok (.ireturn, 1) := by decide +kernel
theorem dX10_cut_0 : decode cX10_cut 0 = .ok (.aload_n 0, 1) := by decide +kernel
theorem dX10_cut_1 : decode cX10_cut 1 = .ok (.aload_n 0, 1) := by decide +kernel
theorem dX10_cut_2 : decode cX10_cut 2 = .ok (.iload_n 1, 1) := by decide +kernel
theorem dX10_cut_3 : decode cX10_cut 3 = .ok (.aload_n 0, 1) := by decide +kernel
theorem dX10_cut_4 : decode cX10_cut 4 = .ok (.getfield 25, 3) := by decide +kernel
theorem dX10_cut_7 : decode cX10_cut 7 = .ok (.iload_n 1, 1) := by decide +kernel
theorem dX10_cut_8 : decode cX10_cut 8 = .ok (.iaload, 1) := by decide +kernel
theorem dX10_cut_9 : decode cX10_cut 9 = .ok (.iconst 1, 1) := by decide +kernel
theorem dX10_cut_10 : decode cX10_cut 10 = .ok (.iadd, 1) := by decide +kernel
theorem dX10_cut_11 : decode cX10_cut 11 = .ok (.iconst (-1), 1) := by decide +kernel
theorem dX10_cut_12 : decode cX10_cut 12 = .ok (.invokevirtual 50, 3) := by decide +kernel
theorem dX10_cut_15 : decode cX10_cut 15 = .ok (.putfield 9, 3) := by decide +kernel
theorem dX10_cut_18 : decode cX10_cut 18 = .ok (.aload_n 0, 1) := by decide +kernel
theorem dX10_cut_19 : decode cX10_cut 19 = .ok (.getfield 9, 3) := by decide +kernel
theorem dX10_cut_22 : decode cX10_cut 22 = .ok (.ireturn, 1) := by decide +kernel
theorem dX10_hang_0 : decode cX10_hang 0 = .ok (.aload_n 0, 1) := by decide +kernel
theorem dX10_hang_1 : decode cX10_hang 1 = .ok (.getfield 22, 3) := by decide +kernel
theorem dX10_hang_4 : decode cX10_hang 4 = .ok (.iload_n 1, 1) := by decide +kernel
theorem dX10_hang_5 : decode cX10_hang 5 = .ok (.iload_n 2, 1) := by decide +kernel
theorem dX10_hang_6 : decode cX10_hang 6 = .ok (.iastore, 1) := by decide +kernel
theorem dX10_hang_7 : decode cX10_hang 7 = .ok (.aload_n 0, 1) := by decide +kernel
theorem dX10_hang_8 : decode cX10_hang 8 = .ok (.iload_n 1, 1) := by decide +kernel
theorem dX10_hang_9 : decode cX10_hang 9 = .ok (.aload_n 0, 1) := by decide +kernel
theorem dX10_hang_10 : decode cX10_hang 10 = .ok (.getfield 25, 3) := by decide +kernel
theorem dX10_hang_13 : decode cX10_hang 13 = .ok (.iload_n 1, 1) := by decide +kernel
theorem dX10_hang_14 : decode cX10_hang 14 = .ok (.iaload, 1) := by decide +kernel
theorem dX10_hang_15 : decode cX10_hang 15 = .ok (.iconst 1, 1) := by decide +kernel
theorem dX10_hang_16 : decode cX10_hang 16 = .ok (.iadd, 1) := by decide +kernel
theorem dX10_hang_17 : decode cX10_hang 17 = .ok (.aload_n 0, 1) := by decide +kernel
theorem dX10_hang_18 : decode cX10_hang 18 = .ok (.getfield 25, 3) := by decide +kernel
theorem dX10_hang_21 : decode cX10_hang 21 = .ok (.iload_n 2, 1) := by decide +kernel
theorem dX10_hang_22 : decode cX10_hang 22 = .ok (.iaload, 1) := by decide +kernel
theorem dX10_hang_23 : decode cX10_hang 23 = .ok (.invokevirtual 50, 3) := by decide +kernel
theorem dX10_hang_26 : decode cX10_hang 26 = .ok (.pop, 1) := by decide +kernel
theorem dX10_hang_27 : decode cX10_hang 27 = .ok (.aload_n 0, 1) := by decide +kernel
theorem dX10_hang_28 : decode cX10_hang 28 = .ok (.getfield 38, 3) := by decide +kernel
theorem dX10_hang_31 : decode cX10_hang 31 = .ok (.iload_n 1, 1) := by decide +kernel
theorem dX10_hang_32 : decode cX10_hang 32 = .ok (.iaload, 1) := by decide +kernel
theorem dX10_hang_33 : decode cX10_hang 33 = .ok (.ireturn, 1) := by decide +kernel
theorem dX10_arrange_0 : decode cX10_arrange 0 = .ok (.iconst 0, 1) := by decide +kernel
theorem dX10_arrange_1 : decode cX10_arrange 1 = .ok (.istore 4, 2) := by decide +kernel
theorem dX10_arrange_3 : decode cX10_arrange 3 = .ok (.iconst 0, 1) := by decide +kernel
theorem dX10_arrange_4 : decode cX10_arrange 4 = .ok (.istore 5, 2) := by decide +kernel
theorem dX10_arrange_6 : decode cX10_arrange 6 = .ok (.iload 5, 2) := by decide +kernel
theorem dX10_arrange_8 : decode cX10_arrange 8 = .ok (.aload_n 0, 1) := by decide +kernel
theorem dX10_arrange_9 : decode cX10_arrange 9 = .ok (.getfield 9, 3) := by decide +kernel
theorem dX10_arrange_12 : decode cX10_arrange 12 = .ok (.if_icmp .ge 62, 3) := by decide +kernel
theorem dX10_arrange_15 : decode cX10_arrange 15 = .ok (.iload 5, 2) := by decide +kernel
theorem dX10_arrange_17 : decode cX10_arrange 17 = .ok (.iload_n 1, 1) := by decide +kernel
theorem dX10_arrange_18 : decode cX10_arrange 18 = .ok (.if_icmp .lt 9, 3) := by decide +kernel
theorem dX10_arrange_21 : decode cX10_arrange 21 = .ok (.iload 5, 2) := by decide +kernel
theorem dX10_arrange_23 : decode cX10_arrange 23 = .ok (.iload_n 2, 1) := by decide +kernel
theorem dX10_arrange_24 : decode cX10_arrange 24 = .ok (.if_icmp .lt 13, 3) := by decide +kernel
theorem dX10_arrange_27 : decode cX10_arrange 27 = .ok (.aload_n 0, 1) := by decide +kernel
theorem dX10_arrange_28 : decode cX10_arrange 28 = .ok (.iload 5, 2) := by decide +kernel
theorem dX10_arrange_30 : decode cX10_arrange 30 = .ok (.iload 4, 2) := by decide +kernel
theorem dX10_arrange_32 : decode cX10_arrange 32 = .ok (.invokevirtual 54, 3) := by decide +kernel
theorem dX10_arrange_35 : decode cX10_arrange 35 = .ok (.istore 4, 2) := by decide +kernel
theorem dX10_arrange_37 : decode cX10_arrange 37 = .ok (.iload 5, 2) := by decide +kernel
theorem dX10_arrange_39 : decode cX10_arrange 39 = .ok (.iload_n 3, 1) := by decide +kernel
theorem dX10_arrange_40 : decode cX10_arrange 40 = .ok (.if_icmp .ne 28, 3) := by decide +kernel
theorem dX10_arrange_43 : decode cX10_arrange 43 = .ok (.iload_n 1, 1) := by decide +kernel
theorem dX10_arrange_44 : decode cX10_arrange 44 = .ok (.istore 6, 2) := by decide +kernel
theorem dX10_arrange_46 : decode cX10_arrange 46 = .ok (.iload 6, 2) := by decide +kernel
theorem dX10_arrange_48 : decode cX10_arrange 48 = .ok (.iload_n 2, 1) := by decide +kernel
theorem dX10_arrange_49 : decode cX10_arrange 49 = .ok (.if_icmp .ge 19, 3) := by decide +kernel
theorem dX10_arrange_52 : decode cX10_arrange 52 = .ok (.aload_n 0, 1) := by decide +kernel
theorem dX10_arrange_53 : decode cX10_arrange 53 = .ok (.iload 6, 2) := by decide +kernel
theorem dX10_arrange_55 : decode cX10_arrange 55 = .ok (.iload 4, 2) := by decide +kernel
theorem dX10_arrange_57 : decode cX10_arrange 57 = .ok (.invokevirtual 54, 3) := by decide +kernel
theorem dX10_arrange_60 : decode cX10_arrange 60 = .ok (.istore 4, 2) := by decide +kernel
theorem dX10_arrange_62 : decode cX10_arrange 62 = .ok (.iinc 6 1, 3) := by decide +kernel
theorem dX10_arrange_65 : decode cX10_arrange 65 = .ok (.goto (-19), 3) := by decide +kernel
theorem dX10_arrange_68 : decode cX10_arrange 68 = .ok (.iinc 5 1, 3) := by decide +kernel
theorem dX10_arrange_71 : decode cX10_arrange 71 = .ok (.goto (-65), 3) := by decide +kernel
theorem dX10_arrange_74 : decode cX10_arrange 74 = .ok (.aload_n 0, 1) := by decide +kernel
theorem dX10_arrange_75 : decode cX10_arrange 75 = .ok (.aload_n 0, 1) := by decide +kernel
theorem dX10_arrange_76 : decode cX10_arrange 76 = .ok (.getfield 15, 3) := by decide +kernel
theorem dX10_arrange_79 : decode cX10_arrange 79 = .ok (.iload 4, 2) := by decide +kernel
theorem dX10_arrange_81 : decode cX10_arrange 81 = .ok (.invokevirtual 58, 3) := by decide +kernel
theorem dX10_arrange_84 : decode cX10_arrange 84 = .ok (.aload_n 0, 1) := by decide +kernel
theorem dX10_arrange_85 : decode cX10_arrange 85 = .ok (.aload_n 0, 1) := by decide +kernel
theorem dX10_arrange_86 : decode cX10_arrange 86 = .ok (.getfield 19, 3) := by decide +kernel
theorem dX10_arrange_89 : decode cX10_arrange 89 = .ok (.iload 4, 2) := by decide +kernel
theorem dX10_arrange_91 : decode cX10_arrange 91 = .ok (.invokevirtual 58, 3) := by decide +kernel
theorem dX10_arrange_94 : decode cX10_arrange 94 = .ok (.aload_n 0, 1) := by decide +kernel
theorem dX10_arrange_95 : decode cX10_arrange 95 = .ok (.aload_n 0, 1) := by decide +kernel
theorem dX10_arrange_96 : decode cX10_arrange 96 = .ok (.getfield 22, 3) := by decide +kernel
theorem dX10_arrange_99 : decode cX10_arrange 99 = .ok (.iload 4, 2) := by decide +kernel
theorem dX10_arrange_101 : decode cX10_arrange 101 = .ok (.invokevirtual 58, 3) := by decide +kernel
theorem dX10_arrange_104 : decode cX10_arrange 104 = .ok (.iconst 1, 1) := by decide +kernel
theorem dX10_arrange_105 : decode cX10_arrange 105 = .ok (.istore 5, 2) := by decide +kernel
theorem dX10_arrange_107 : decode cX10_arrange 107 = .ok (.iload 5, 2) := by decide +kernel
theorem dX10_arrange_109 : decode cX10_arrange 109 = .ok (.iload 4, 2) := by decide +kernel
theorem dX10_arrange_111 : decode cX10_arrange 111 = .ok (.if_icmp .ge 48, 3) := by decide +kernel
theorem dX10_arrange_114 : decode cX10_arrange 114 = .ok (.aload_n 0, 1) := by decide +kernel
theorem dX10_arrange_115 : decode cX10_arrange 115 = .ok (.getfield 22, 3) := by decide +kernel
theorem dX10_arrange_118 : decode cX10_arrange 118 = .ok (.iload 5, 2) := by decide +kernel
theorem dX10_arrange_120 : decode cX10_arrange 120 = .ok (.iaload, 1) := by decide +kernel
theorem dX10_arrange_121 : decode cX10_arrange 121 = .ok (.istore 6, 2) := by decide +kernel
theorem dX10_arrange_123 : decode cX10_arrange 123 = .ok (.aload_n 0, 1) := by decide +kernel
theorem dX10_arrange_124 : decode cX10_arrange 124 = .ok (.getfield 22, 3) := by decide +kernel
theorem dX10_arrange_127 : decode cX10_arrange 127 = .ok (.iload 5, 2) := by decide +kernel
theorem dX10_arrange_129 : decode cX10_arrange 129 = .ok (.iload 6, 2) := by decide +kernel
theorem dX10_arrange_131 : decode cX10_arrange 131 = .ok (.ifCond .lt 20, 3) := by decide +kernel
theorem dX10_arrange_134 : decode cX10_arrange 134 = .ok (.iload 6, 2) := by decide +kernel
theorem dX10_arrange_136 : decode cX10_arrange 136 = .ok (.bipush 40, 2) := by decide +kernel
theorem dX10_arrange_138 : decode cX10_arrange 138 = .ok (.if_icmp .ge 13, 3) := by decide +kernel
theorem dX10_arrange_141 : decode cX10_arrange 141 = .ok (.aload_n 0, 1) := by decide +kernel
theorem dX10_arrange_142 : decode cX10_arrange 142 = .ok (.getfield 38, 3) := by decide +kernel
theorem dX10_arrange_145 : decode cX10_arrange 145 = .ok (.iload 6, 2) := by decide +kernel
theorem dX10_arrange_147 : decode cX10_arrange 147 = .ok (.iaload, 1) := by decide +kernel
theorem dX10_arrange_148 : decode cX10_arrange 148 = .ok (.goto 4, 3) := by decide +kernel
theorem dX10_arrange_151 : decode cX10_arrange 151 = .ok (.iconst (-1), 1) := by decide +kernel
theorem dX10_arrange_152 : decode cX10_arrange 152 = .ok (.iastore, 1) := by decide +kernel
theorem dX10_arrange_153 : decode cX10_arrange 153 = .ok (.iinc 5 1, 3) := by decide +kernel
theorem dX10_arrange_156 : decode cX10_arrange 156 = .ok (.goto (-49), 3) := by decide +kernel
theorem dX10_arrange_159 : decode cX10_arrange 159 = .ok (.aload_n 0, 1) := by decide +kernel
theorem dX10_arrange_160 : decode cX10_arrange 160 = .ok (.iload 4, 2) := by decide +kernel
theorem dX10_arrange_162 : decode cX10_arrange 162 = .ok (.invokevirtual 62, 3) := by decide +kernel
theorem dX10_arrange_165 : decode cX10_arrange 165 = .ok (.iload 4, 2) := by decide +kernel
theorem dX10_arrange_167 : decode cX10_arrange 167 = .ok (.ireturn, 1) := by decide +kernel
theorem dX10_lay_0 : decode cX10_lay 0 = .ok (.iload_n 2, 1) := by decide +kernel
theorem dX10_lay_1 : decode cX10_lay 1 = .ok (.ifCond .lt 19, 3) := by decide +kernel
theorem dX10_lay_4 : decode cX10_lay 4 = .ok (.iload_n 2, 1) := by decide +kernel
theorem dX10_lay_5 : decode cX10_lay 5 = .ok (.bipush 40, 2) := by decide +kernel
theorem dX10_lay_7 : decode cX10_lay 7 = .ok (.if_icmp .ge 13, 3) := by decide +kernel
theorem dX10_lay_10 : decode cX10_lay 10 = .ok (.iload_n 1, 1) := by decide +kernel
theorem dX10_lay_11 : decode cX10_lay 11 = .ok (.ifCond .lt 9, 3) := by decide +kernel
theorem dX10_lay_14 : decode cX10_lay 14 = .ok (.iload_n 1, 1) := by decide +kernel
theorem dX10_lay_15 : decode cX10_lay 15 = .ok (.bipush 40, 2) := by decide +kernel
theorem dX10_lay_17 : decode cX10_lay 17 = .ok (.if_icmp .lt 5, 3) := by decide +kernel
theorem dX10_lay_20 : decode cX10_lay 20 = .ok (.iload_n 2, 1) := by decide +kernel
theorem dX10_lay_21 : decode cX10_lay 21 = .ok (.ireturn, 1) := by decide +kernel
theorem dX10_lay_22 : decode cX10_lay 22 = .ok (.aload_n 0, 1) := by decide +kernel
theorem dX10_lay_23 : decode cX10_lay 23 = .ok (.getfield 35, 3) := by decide +kernel
theorem dX10_lay_26 : decode cX10_lay 26 = .ok (.iload_n 2, 1) := by decide +kernel
theorem dX10_lay_27 : decode cX10_lay 27 = .ok (.iload_n 1, 1) := by decide +kernel
theorem dX10_lay_28 : decode cX10_lay 28 = .ok (.iastore, 1) := by decide +kernel
theorem dX10_lay_29 : decode cX10_lay 29 = .ok (.aload_n 0, 1) := by decide +kernel
theorem dX10_lay_30 : decode cX10_lay 30 = .ok (.getfield 38, 3) := by decide +kernel
theorem dX10_lay_33 : decode cX10_lay 33 = .ok (.iload_n 1, 1) := by decide +kernel
theorem dX10_lay_34 : decode cX10_lay 34 = .ok (.iload_n 2, 1) := by decide +kernel
theorem dX10_lay_35 : decode cX10_lay 35 = .ok (.iastore, 1) := by decide +kernel
theorem dX10_lay_36 : decode cX10_lay 36 = .ok (.iload_n 2, 1) := by decide +kernel
theorem dX10_lay_37 : decode cX10_lay 37 = .ok (.iconst 1, 1) := by decide +kernel
theorem dX10_lay_38 : decode cX10_lay 38 = .ok (.iadd, 1) := by decide +kernel
theorem dX10_lay_39 : decode cX10_lay 39 = .ok (.ireturn, 1) := by decide +kernel
theorem dX10_relay_0 : decode cX10_relay 0 = .ok (.iconst 0, 1) := by decide +kernel
theorem dX10_relay_1 : decode cX10_relay 1 = .ok (.istore_n 3, 1) := by decide +kernel
theorem dX10_relay_2 : decode cX10_relay 2 = .ok (.iload_n 3, 1) := by decide +kernel
theorem dX10_relay_3 : decode cX10_relay 3 = .ok (.iload_n 2, 1) := by decide +kernel
theorem dX10_relay_4 : decode cX10_relay 4 = .ok (.if_icmp .ge 23, 3) := by decide +kernel
theorem dX10_relay_7 : decode cX10_relay 7 = .ok (.aload_n 0, 1) := by decide +kernel
theorem dX10_relay_8 : decode cX10_relay 8 = .ok (.getfield 41, 3) := by decide +kernel
theorem dX10_relay_11 : decode cX10_relay 11 = .ok (.iload_n 3, 1) := by decide +kernel
theorem dX10_relay_12 : decode cX10_relay 12 = .ok (.aload_n 1, 1) := by decide +kernel
theorem dX10_relay_13 : decode cX10_relay 13 = .ok (.aload_n 0, 1) := by decide +kernel
theorem dX10_relay_14 : decode cX10_relay 14 = .ok (.getfield 35, 3) := by decide +kernel
theorem dX10_relay_17 : decode cX10_relay 17 = .ok (.iload_n 3, 1) := by decide +kernel
theorem dX10_relay_18 : decode cX10_relay 18 = .ok (.iaload, 1) := by decide +kernel
theorem dX10_relay_19 : decode cX10_relay 19 = .ok (.iaload, 1) := by decide +kernel
theorem dX10_relay_20 : decode cX10_relay 20 = .ok (.iastore, 1) := by decide +kernel
theorem dX10_relay_21 : decode cX10_relay 21 = .ok (.iinc 3 1, 3) := by decide +kernel
theorem dX10_relay_24 : decode cX10_relay 24 = .ok (.goto (-22), 3) := by decide +kernel
theorem dX10_relay_27 : decode cX10_relay 27 = .ok (.aload_n 0, 1) := by decide +kernel
theorem dX10_relay_28 : decode cX10_relay 28 = .ok (.getfield 41, 3) := by decide +kernel
theorem dX10_relay_31 : decode cX10_relay 31 = .ok (.iconst 0, 1) := by decide +kernel
theorem dX10_relay_32 : decode cX10_relay 32 = .ok (.aload_n 1, 1) := by decide +kernel
theorem dX10_relay_33 : decode cX10_relay 33 = .ok (.iconst 0, 1) := by decide +kernel
theorem dX10_relay_34 : decode cX10_relay 34 = .ok (.iload_n 2, 1) := by decide +kernel
theorem dX10_relay_35 : decode cX10_relay 35 = .ok (.invokestatic 44, 3) := by decide +kernel
theorem dX10_relay_38 : decode cX10_relay 38 = .ok (.return_, 1) := by decide +kernel
theorem dX10_survey_0 : decode cX10_survey 0 = .ok (.iconst 0, 1) := by decide +kernel
theorem dX10_survey_1 : decode cX10_survey 1 = .ok (.istore_n 2, 1) := by decide +kernel
theorem dX10_survey_2 : decode cX10_survey 2 = .ok (.iload_n 2, 1) := by decide +kernel
theorem dX10_survey_3 : decode cX10_survey 3 = .ok (.iload_n 1, 1) := by decide +kernel
theorem dX10_survey_4 : decode cX10_survey 4 = .ok (.if_icmp .ge 67, 3) := by decide +kernel
theorem dX10_survey_7 : decode cX10_survey 7 = .ok (.aload_n 0, 1) := by decide +kernel
theorem dX10_survey_8 : decode cX10_survey 8 = .ok (.getfield 25, 3) := by decide +kernel
theorem dX10_survey_11 : decode cX10_survey 11 = .ok (.iload_n 2, 1) := by decide +kernel
theorem dX10_survey_12 : decode cX10_survey 12 = .ok (.iload_n 2, 1) := by decide +kernel
theorem dX10_survey_13 : decode cX10_survey 13 = .ok (.iastore, 1) := by decide +kernel
theorem dX10_survey_14 : decode cX10_survey 14 = .ok (.aload_n 0, 1) := by decide +kernel
theorem dX10_survey_15 : decode cX10_survey 15 = .ok (.getfield 28, 3) := by decide +kernel
theorem dX10_survey_18 : decode cX10_survey 18 = .ok (.iload_n 2, 1) := by decide +kernel
theorem dX10_survey_19 : decode cX10_survey 19 = .ok (.lconst 0, 1) := by decide +kernel
theorem dX10_survey_20 : decode cX10_survey 20 = .ok (.lastore, 1) := by decide +kernel
theorem dX10_survey_21 : decode cX10_survey 21 = .ok (.aload_n 0, 1) := by decide +kernel
theorem dX10_survey_22 : decode cX10_survey 22 = .ok (.getfield 22, 3) := by decide +kernel
theorem dX10_survey_25 : decode cX10_survey 25 = .ok (.iload_n 2, 1) := by decide +kernel
theorem dX10_survey_26 : decode cX10_survey 26 = .ok (.iaload, 1) := by decide +kernel
theorem dX10_survey_27 : decode cX10_survey 27 = .ok (.istore_n 3, 1) := by decide +kernel
theorem dX10_survey_28 : decode cX10_survey 28 = .ok (.iload_n 3, 1) := by decide +kernel
theorem dX10_survey_29 : decode cX10_survey 29 = .ok (.ifCond .lt 36, 3) := by decide +kernel
theorem dX10_survey_32 : decode cX10_survey 32 = .ok (.iload_n 3, 1) := by decide +kernel
theorem dX10_survey_33 : decode cX10_survey 33 = .ok (.iload_n 2, 1) := by decide +kernel
theorem dX10_survey_34 : decode cX10_survey 34 = .ok (.if_icmp .ge 31, 3) := by decide +kernel
theorem dX10_survey_37 : decode cX10_survey 37 = .ok (.aload_n 0, 1) := by decide +kernel
theorem dX10_survey_38 : decode cX10_survey 38 = .ok (.getfield 28, 3) := by decide +kernel
theorem dX10_survey_41 : decode cX10_survey 41 = .ok (.iload_n 3, 1) := by decide +kernel
theorem dX10_survey_42 : decode cX10_survey 42 = .ok (.dup2, 1) := by decide +kernel
theorem dX10_survey_43 : decode cX10_survey 43 = .ok (.laload, 1) := by decide +kernel
theorem dX10_survey_44 : decode cX10_survey 44 = .ok (.lconst 1, 1) := by decide +kernel
theorem dX10_survey_45 : decode cX10_survey 45 = .ok (.iload_n 2, 1) := by decide +kernel
theorem dX10_survey_46 : decode cX10_survey 46 = .ok (.lshl, 1) := by decide +kernel
theorem dX10_survey_47 : decode cX10_survey 47 = .ok (.lor, 1) := by decide +kernel
theorem dX10_survey_48 : decode cX10_survey 48 = .ok (.lastore, 1) := by decide +kernel
theorem dX10_survey_49 : decode cX10_survey 49 = .ok (.aload_n 0, 1) := by decide +kernel
theorem dX10_survey_50 : decode cX10_survey 50 = .ok (.getfield 32, 3) := by decide +kernel
theorem dX10_survey_53 : decode cX10_survey 53 = .ok (.iload_n 2, 1) := by decide +kernel
theorem dX10_survey_54 : decode cX10_survey 54 = .ok (.aload_n 0, 1) := by decide +kernel
theorem dX10_survey_55 : decode cX10_survey 55 = .ok (.getfield 32, 3) := by decide +kernel
theorem dX10_survey_58 : decode cX10_survey 58 = .ok (.iload_n 3, 1) := by decide +kernel
theorem dX10_survey_59 : decode cX10_survey 59 = .ok (.laload, 1) := by decide +kernel
theorem dX10_survey_60 : decode cX10_survey 60 = .ok (.lconst 1, 1) := by decide +kernel
theorem dX10_survey_61 : decode cX10_survey 61 = .ok (.iload_n 3, 1) := by decide +kernel
theorem dX10_survey_62 : decode cX10_survey 62 = .ok (.lshl, 1) := by decide +kernel
theorem dX10_survey_63 : decode cX10_survey 63 = .ok (.lor, 1) := by decide +kernel
theorem dX10_survey_64 : decode cX10_survey 64 = .ok (.lastore, 1) := by decide +kernel
theorem dX10_survey_65 : decode cX10_survey 65 = .ok (.iinc 2 1, 3) := by decide +kernel
theorem dX10_survey_68 : decode cX10_survey 68 = .ok (.goto (-66), 3) := by decide +kernel
theorem dX10_survey_71 : decode cX10_survey 71 = .ok (.iload_n 1, 1) := by decide +kernel
theorem dX10_survey_72 : decode cX10_survey 72 = .ok (.iconst 1, 1) := by decide +kernel
theorem dX10_survey_73 : decode cX10_survey 73 = .ok (.isub, 1) := by decide +kernel
theorem dX10_survey_74 : decode cX10_survey 74 = .ok (.istore_n 2, 1) := by decide +kernel
theorem dX10_survey_75 : decode cX10_survey 75 = .ok (.iload_n 2, 1) := by decide +kernel
theorem dX10_survey_76 : decode cX10_survey 76 = .ok (.ifCond .le 46, 3) := by decide +kernel
theorem dX10_survey_79 : decode cX10_survey 79 = .ok (.aload_n 0, 1) := by decide +kernel
theorem dX10_survey_80 : decode cX10_survey 80 = .ok (.getfield 22, 3) := by decide +kernel
theorem dX10_survey_83 : decode cX10_survey 83 = .ok (.iload_n 2, 1) := by decide +kernel
theorem dX10_survey_84 : decode cX10_survey 84 = .ok (.iaload, 1) := by decide +kernel
theorem dX10_survey_85 : decode cX10_survey 85 = .ok (.istore_n 3, 1) := by decide +kernel
theorem dX10_survey_86 : decode cX10_survey 86 = .ok (.iload_n 3, 1) := by decide +kernel
theorem dX10_survey_87 : decode cX10_survey 87 = .ok (.ifCond .lt 29, 3) := by decide +kernel
theorem dX10_survey_90 : decode cX10_survey 90 = .ok (.iload_n 3, 1) := by decide +kernel
theorem dX10_survey_91 : decode cX10_survey 91 = .ok (.iload_n 2, 1) := by decide +kernel
theorem dX10_survey_92 : decode cX10_survey 92 = .ok (.if_icmp .ge 24, 3) := by decide +kernel
theorem dX10_survey_95 : decode cX10_survey 95 = .ok (.aload_n 0, 1) := by decide +kernel
theorem dX10_survey_96 : decode cX10_survey 96 = .ok (.getfield 25, 3) := by decide +kernel
theorem dX10_survey_99 : decode cX10_survey 99 = .ok (.iload_n 3, 1) := by decide +kernel
theorem dX10_survey_100 : decode cX10_survey 100 = .ok (.aload_n 0, 1) := by decide +kernel
theorem dX10_survey_101 : decode cX10_survey 101 = .ok (.getfield 25, 3) := by decide +kernel
theorem dX10_survey_104 : decode cX10_survey 104 = .ok (.iload_n 3, 1) := by decide +kernel
theorem dX10_survey_105 : decode cX10_survey 105 = .ok (.iaload, 1) := by decide +kernel
theorem dX10_survey_106 : decode cX10_survey 106 = .ok (.aload_n 0, 1) := by decide +kernel
theorem dX10_survey_107 : decode cX10_survey 107 = .ok (.getfield 25, 3) := by decide +kernel
theorem dX10_survey_110 : decode cX10_survey 110 = .ok (.iload_n 2, 1) := by decide +kernel
theorem dX10_survey_111 : decode cX10_survey 111 = .ok (.iaload, 1) := by decide +kernel
theorem dX10_survey_112 : decode cX10_survey 112 = .ok (.invokestatic 66, 3) := by decide +kernel
theorem dX10_survey_115 : decode cX10_survey 115 = .ok (.iastore, 1) := by decide +kernel
theorem dX10_survey_116 : decode cX10_survey 116 = .ok (.iinc 2 (-1), 3) := by decide +kernel
theorem dX10_survey_119 : decode cX10_survey 119 = .ok (.goto (-44), 3) := by decide +kernel
theorem dX10_survey_122 : decode cX10_survey 122 = .ok (.return_, 1) := by decide +kernel
theorem dX10_tell_0 : decode cX10_tell 0 = .ok (.iload_n 2, 1) := by decide +kernel
theorem dX10_tell_1 : decode cX10_tell 1 = .ok (.tableswitch 75 0 4 #[35, 42, 49, 56, 66], 35) := by decide +kernel
theorem dX10_tell_36 : decode cX10_tell 36 = .ok (.aload_n 0, 1) := by decide +kernel
theorem dX10_tell_37 : decode cX10_tell 37 = .ok (.getfield 15, 3) := by decide +kernel
theorem dX10_tell_40 : decode cX10_tell 40 = .ok (.iload_n 1, 1) := by decide +kernel
theorem dX10_tell_41 : decode cX10_tell 41 = .ok (.iaload, 1) := by decide +kernel
theorem dX10_tell_42 : decode cX10_tell 42 = .ok (.ireturn, 1) := by decide +kernel
theorem dX10_tell_43 : decode cX10_tell 43 = .ok (.aload_n 0, 1) := by decide +kernel
theorem dX10_tell_44 : decode cX10_tell 44 = .ok (.getfield 19, 3) := by decide +kernel
theorem dX10_tell_47 : decode cX10_tell 47 = .ok (.iload_n 1, 1) := by decide +kernel
theorem dX10_tell_48 : decode cX10_tell 48 = .ok (.iaload, 1) := by decide +kernel
theorem dX10_tell_49 : decode cX10_tell 49 = .ok (.ireturn, 1) := by decide +kernel
theorem dX10_tell_50 : decode cX10_tell 50 = .ok (.aload_n 0, 1) := by decide +kernel
theorem dX10_tell_51 : decode cX10_tell 51 = .ok (.getfield 22, 3) := by decide +kernel
theorem dX10_tell_54 : decode cX10_tell 54 = .ok (.iload_n 1, 1) := by decide +kernel
theorem dX10_tell_55 : decode cX10_tell 55 = .ok (.iaload, 1) := by decide +kernel
theorem dX10_tell_56 : decode cX10_tell 56 = .ok (.ireturn, 1) := by decide +kernel
theorem dX10_tell_57 : decode cX10_tell 57 = .ok (.aload_n 0, 1) := by decide +kernel
theorem dX10_tell_58 : decode cX10_tell 58 = .ok (.getfield 28, 3) := by decide +kernel
theorem dX10_tell_61 : decode cX10_tell 61 = .ok (.iload_n 1, 1) := by decide +kernel
theorem dX10_tell_62 : decode cX10_tell 62 = .ok (.laload, 1) := by decide +kernel
theorem dX10_tell_63 : decode cX10_tell 63 = .ok (.invokestatic 71, 3) := by decide +kernel
theorem dX10_tell_66 : decode cX10_tell 66 = .ok (.ireturn, 1) := by decide +kernel
theorem dX10_tell_67 : decode cX10_tell 67 = .ok (.aload_n 0, 1) := by decide +kernel
theorem dX10_tell_68 : decode cX10_tell 68 = .ok (.getfield 25, 3) := by decide +kernel
theorem dX10_tell_71 : decode cX10_tell 71 = .ok (.iload_n 1, 1) := by decide +kernel
theorem dX10_tell_72 : decode cX10_tell 72 = .ok (.iaload, 1) := by decide +kernel
theorem dX10_tell_73 : decode cX10_tell 73 = .ok (.iload_n 1, 1) := by decide +kernel
theorem dX10_tell_74 : decode cX10_tell 74 = .ok (.isub, 1) := by decide +kernel
theorem dX10_tell_75 : decode cX10_tell 75 = .ok (.ireturn, 1) := by decide +kernel
theorem dX10_tell_76 : decode cX10_tell 76 = .ok (.aload_n 0, 1) := by decide +kernel
theorem dX10_tell_77 : decode cX10_tell 77 = .ok (.getfield 32, 3) := by decide +kernel
theorem dX10_tell_80 : decode cX10_tell 80 = .ok (.iload_n 1, 1) := by decide +kernel
theorem dX10_tell_81 : decode cX10_tell 81 = .ok (.laload, 1) := by decide +kernel
theorem dX10_tell_82 : decode cX10_tell 82 = .ok (.invokestatic 71, 3) := by decide +kernel
theorem dX10_tell_85 : decode cX10_tell 85 = .ok (.ireturn, 1) := by decide +kernel
theorem dX10_along_0 : decode cX10_along 0 = .ok (.iload_n 1, 1) := by decide +kernel
theorem dX10_along_1 : decode cX10_along 1 = .ok (.tableswitch 164 0 8 #[51, 58, 62, 77, 90, 107, 123, 145, 152], 51) := by decide +kernel
theorem dX10_along_52 : decode cX10_along 52 = .ok (.aload_n 0, 1) := by decide +kernel
theorem dX10_along_53 : decode cX10_along 53 = .ok (.getfield 28, 3) := by decide +kernel
theorem dX10_along_56 : decode cX10_along 56 = .ok (.iload_n 2, 1) := by decide +kernel
theorem dX10_along_57 : decode cX10_along 57 = .ok (.laload, 1) := by decide +kernel
theorem dX10_along_58 : decode cX10_along 58 = .ok (.lreturn, 1) := by decide +kernel
theorem dX10_along_59 : decode cX10_along 59 = .ok (.lconst 1, 1) := by decide +kernel
theorem dX10_along_60 : decode cX10_along 60 = .ok (.iload_n 2, 1) := by decide +kernel
theorem dX10_along_61 : decode cX10_along 61 = .ok (.lshl, 1) := by decide +kernel
theorem dX10_along_62 : decode cX10_along 62 = .ok (.lreturn, 1) := by decide +kernel
theorem dX10_along_63 : decode cX10_along 63 = .ok (.iload_n 2, 1) := by decide +kernel
theorem dX10_along_64 : decode cX10_along 64 = .ok (.iconst 1, 1) := by decide +kernel
theorem dX10_along_65 : decode cX10_along 65 = .ok (.iadd, 1) := by decide +kernel
theorem dX10_along_66 : decode cX10_along 66 = .ok (.aload_n 0, 1) := by decide +kernel
theorem dX10_along_67 : decode cX10_along 67 = .ok (.getfield 25, 3) := by decide +kernel
theorem dX10_along_70 : decode cX10_along 70 = .ok (.iload_n 2, 1) := by decide +kernel
theorem dX10_along_71 : decode cX10_along 71 = .ok (.iaload, 1) := by decide +kernel
theorem dX10_along_72 : decode cX10_along 72 = .ok (.iconst 1, 1) := by decide +kernel
theorem dX10_along_73 : decode cX10_along 73 = .ok (.iadd, 1) := by decide +kernel
theorem dX10_along_74 : decode cX10_along 74 = .ok (.invokestatic 77, 3) := by decide +kernel
theorem dX10_along_77 : decode cX10_along 77 = .ok (.lreturn, 1) := by decide +kernel
theorem dX10_along_78 : decode cX10_along 78 = .ok (.iload_n 2, 1) := by decide +kernel
theorem dX10_along_79 : decode cX10_along 79 = .ok (.aload_n 0, 1) := by decide +kernel
theorem dX10_along_80 : decode cX10_along 80 = .ok (.getfield 25, 3) := by decide +kernel
theorem dX10_along_83 : decode cX10_along 83 = .ok (.iload_n 2, 1) := by decide +kernel
theorem dX10_along_84 : decode cX10_along 84 = .ok (.iaload, 1) := by decide +kernel
theorem dX10_along_85 : decode cX10_along 85 = .ok (.iconst 1, 1) := by decide +kernel
theorem dX10_along_86 : decode cX10_along 86 = .ok (.iadd, 1) := by decide +kernel
theorem dX10_along_87 : decode cX10_along 87 = .ok (.invokestatic 77, 3) := by decide +kernel
theorem dX10_along_90 : decode cX10_along 90 = .ok (.lreturn, 1) := by decide +kernel
theorem dX10_along_91 : decode cX10_along 91 = .ok (.aload_n 0, 1) := by decide +kernel
theorem dX10_along_92 : decode cX10_along 92 = .ok (.iload_n 2, 1) := by decide +kernel
theorem dX10_along_93 : decode cX10_along 93 = .ok (.invokevirtual 81, 3) := by decide +kernel
theorem dX10_along_96 : decode cX10_along 96 = .ok (.iload_n 2, 1) := by decide +kernel
theorem dX10_along_97 : decode cX10_along 97 = .ok (.iconst 1, 1) := by decide +kernel
theorem dX10_along_98 : decode cX10_along 98 = .ok (.iadd, 1) := by decide +kernel
theorem dX10_along_99 : decode cX10_along 99 = .ok (.aload_n 0, 1) := by decide +kernel
theorem dX10_along_100 : decode cX10_along 100 = .ok (.getfield 9, 3) := by decide +kernel
theorem dX10_along_103 : decode cX10_along 103 = .ok (.invokestatic 77, 3) := by decide +kernel
theorem dX10_along_106 : decode cX10_along 106 = .ok (.land, 1) := by decide +kernel
theorem dX10_along_107 : decode cX10_along 107 = .ok (.lreturn, 1) := by decide +kernel
theorem dX10_along_108 : decode cX10_along 108 = .ok (.aload_n 0, 1) := by decide +kernel
theorem dX10_along_109 : decode cX10_along 109 = .ok (.getfield 25, 3) := by decide +kernel
theorem dX10_along_112 : decode cX10_along 112 = .ok (.iload_n 2, 1) := by decide +kernel
theorem dX10_along_113 : decode cX10_along 113 = .ok (.iaload, 1) := by decide +kernel
theorem dX10_along_114 : decode cX10_along 114 = .ok (.iconst 1, 1) := by decide +kernel
theorem dX10_along_115 : decode cX10_along 115 = .ok (.iadd, 1) := by decide +kernel
theorem dX10_along_116 : decode cX10_along 116 = .ok (.aload_n 0, 1) := by decide +kernel
theorem dX10_along_117 : decode cX10_along 117 = .ok (.getfield 9, 3) := by decide +kernel
theorem dX10_along_120 : decode cX10_along 120 = .ok (.invokestatic 77, 3) := by decide +kernel
theorem dX10_along_123 : decode cX10_along 123 = .ok (.lreturn, 1) := by decide +kernel
theorem dX10_along_124 : decode cX10_along 124 = .ok (.aload_n 0, 1) := by decide +kernel
theorem dX10_along_125 : decode cX10_along 125 = .ok (.getfield 22, 3) := by decide +kernel
theorem dX10_along_128 : decode cX10_along 128 = .ok (.iload_n 2, 1) := by decide +kernel
theorem dX10_along_129 : decode cX10_along 129 = .ok (.iaload, 1) := by decide +kernel
theorem dX10_along_130 : decode cX10_along 130 = .ok (.ifCond .lt 14, 3) := by decide +kernel
theorem dX10_along_133 : decode cX10_along 133 = .ok (.lconst 1, 1) := by decide +kernel
theorem dX10_along_134 : decode cX10_along 134 = .ok (.aload_n 0, 1) := by decide +kernel
theorem dX10_along_135 : decode cX10_along 135 = .ok (.getfield 22, 3) := by decide +kernel
theorem dX10_along_138 : decode cX10_along 138 = .ok (.iload_n 2, 1) := by decide +kernel
theorem dX10_along_139 : decode cX10_along 139 = .ok (.iaload, 1) := by decide +kernel
theorem dX10_along_140 : decode cX10_along 140 = .ok (.lshl, 1) := by decide +kernel
theorem dX10_along_141 : decode cX10_along 141 = .ok (.goto 4, 3) := by decide +kernel
theorem dX10_along_144 : decode cX10_along 144 = .ok (.lconst 0, 1) := by decide +kernel
theorem dX10_along_145 : decode cX10_along 145 = .ok (.lreturn, 1) := by decide +kernel
theorem dX10_along_146 : decode cX10_along 146 = .ok (.aload_n 0, 1) := by decide +kernel
theorem dX10_along_147 : decode cX10_along 147 = .ok (.getfield 32, 3) := by decide +kernel
theorem dX10_along_150 : decode cX10_along 150 = .ok (.iload_n 2, 1) := by decide +kernel
theorem dX10_along_151 : decode cX10_along 151 = .ok (.laload, 1) := by decide +kernel
theorem dX10_along_152 : decode cX10_along 152 = .ok (.lreturn, 1) := by decide +kernel
theorem dX10_along_153 : decode cX10_along 153 = .ok (.aload_n 0, 1) := by decide +kernel
theorem dX10_along_154 : decode cX10_along 154 = .ok (.iload_n 2, 1) := by decide +kernel
theorem dX10_along_155 : decode cX10_along 155 = .ok (.invokevirtual 81, 3) := by decide +kernel
theorem dX10_along_158 : decode cX10_along 158 = .ok (.iconst 0, 1) := by decide +kernel
theorem dX10_along_159 : decode cX10_along 159 = .ok (.iload_n 2, 1) := by decide +kernel
theorem dX10_along_160 : decode cX10_along 160 = .ok (.invokestatic 77, 3) := by decide +kernel
theorem dX10_along_163 : decode cX10_along 163 = .ok (.land, 1) := by decide +kernel
theorem dX10_along_164 : decode cX10_along 164 = .ok (.lreturn, 1) := by decide +kernel
theorem dX10_along_165 : decode cX10_along 165 = .ok (.iconst 0, 1) := by decide +kernel
theorem dX10_along_166 : decode cX10_along 166 = .ok (.iload_n 2, 1) := by decide +kernel
theorem dX10_along_167 : decode cX10_along 167 = .ok (.invokestatic 77, 3) := by decide +kernel
theorem dX10_along_170 : decode cX10_along 170 = .ok (.aload_n 0, 1) := by decide +kernel
theorem dX10_along_171 : decode cX10_along 171 = .ok (.getfield 32, 3) := by decide +kernel
theorem dX10_along_174 : decode cX10_along 174 = .ok (.iload_n 2, 1) := by decide +kernel
theorem dX10_along_175 : decode cX10_along 175 = .ok (.laload, 1) := by decide +kernel
theorem dX10_along_176 : decode cX10_along 176 = .ok (.ldc2_w 85, 3) := by decide +kernel
theorem dX10_along_179 : decode cX10_along 179 = .ok (.lxor, 1) := by decide +kernel
theorem dX10_along_180 : decode cX10_along 180 = .ok (.land, 1) := by decide +kernel
theorem dX10_along_181 : decode cX10_along 181 = .ok (.lreturn, 1) := by decide +kernel
theorem dX10_siblings_0 : decode cX10_siblings 0 = .ok (.aload_n 0, 1) := by decide +kernel
theorem dX10_siblings_1 : decode cX10_siblings 1 = .ok (.getfield 22, 3) := by decide +kernel
theorem dX10_siblings_4 : decode cX10_siblings 4 = .ok (.iload_n 1, 1) := by decide +kernel
theorem dX10_siblings_5 : decode cX10_siblings 5 = .ok (.iaload, 1) := by decide +kernel
theorem dX10_siblings_6 : decode cX10_siblings 6 = .ok (.istore_n 2, 1) := by decide +kernel
theorem dX10_siblings_7 : decode cX10_siblings 7 = .ok (.iload_n 2, 1) := by decide +kernel
theorem dX10_siblings_8 : decode cX10_siblings 8 = .ok (.ifCond .lt 18, 3) := by decide +kernel
theorem dX10_siblings_11 : decode cX10_siblings 11 = .ok (.iload_n 2, 1) := by decide +kernel
theorem dX10_siblings_12 : decode cX10_siblings 12 = .ok (.bipush 40, 2) := by decide +kernel
theorem dX10_siblings_14 : decode cX10_siblings 14 = .ok (.if_icmp .ge 12, 3) := by decide +kernel
theorem dX10_siblings_17 : decode cX10_siblings 17 = .ok (.aload_n 0, 1) := by decide +kernel
theorem dX10_siblings_18 : decode cX10_siblings 18 = .ok (.getfield 28, 3) := by decide +kernel
theorem dX10_siblings_21 : decode cX10_siblings 21 = .ok (.iload_n 2, 1) := by decide +kernel
theorem dX10_siblings_22 : decode cX10_siblings 22 = .ok (.laload, 1) := by decide +kernel
theorem dX10_siblings_23 : decode cX10_siblings 23 = .ok (.goto 4, 3) := by decide +kernel
theorem dX10_siblings_26 : decode cX10_siblings 26 = .ok (.lconst 0, 1) := by decide +kernel
theorem dX10_siblings_27 : decode cX10_siblings 27 = .ok (.lreturn, 1) := by decide +kernel
theorem dX10_isReverse_0 : decode cX10_isReverse 0 = .ok (.iload_n 0, 1) := by decide +kernel
theorem dX10_isReverse_1 : decode cX10_isReverse 1 = .ok (.bipush 7, 2) := by decide +kernel
theorem dX10_isReverse_3 : decode cX10_isReverse 3 = .ok (.if_icmp .eq 15, 3) := by decide +kernel
theorem dX10_isReverse_6 : decode cX10_isReverse 6 = .ok (.iload_n 0, 1) := by decide +kernel
theorem dX10_isReverse_7 : decode cX10_isReverse 7 = .ok (.bipush 8, 2) := by decide +kernel
theorem dX10_isReverse_9 : decode cX10_isReverse 9 = .ok (.if_icmp .eq 9, 3) := by decide +kernel
theorem dX10_isReverse_12 : decode cX10_isReverse 12 = .ok (.iload_n 0, 1) := by decide +kernel
theorem dX10_isReverse_13 : decode cX10_isReverse 13 = .ok (.bipush 9, 2) := by decide +kernel
theorem dX10_isReverse_15 : decode cX10_isReverse 15 = .ok (.if_icmp .ne 7, 3) := by decide +kernel
theorem dX10_isReverse_18 : decode cX10_isReverse 18 = .ok (.iconst 1, 1) := by decide +kernel
theorem dX10_isReverse_19 : decode cX10_isReverse 19 = .ok (.goto 4, 3) := by decide +kernel
theorem dX10_isReverse_22 : decode cX10_isReverse 22 = .ok (.iconst 0, 1) := by decide +kernel
theorem dX10_isReverse_23 : decode cX10_isReverse 23 = .ok (.ireturn, 1) := by decide +kernel
theorem dX10_passing_0 : decode cX10_passing 0 = .ok (.iload_n 1, 1) := by decide +kernel
theorem dX10_passing_1 : decode cX10_passing 1 = .ok (.bipush 8, 2) := by decide +kernel
theorem dX10_passing_3 : decode cX10_passing 3 = .ok (.if_icmp .ne 12, 3) := by decide +kernel
theorem dX10_passing_6 : decode cX10_passing 6 = .ok (.iconst 0, 1) := by decide +kernel
theorem dX10_passing_7 : decode cX10_passing 7 = .ok (.aload_n 0, 1) := by decide +kernel
theorem dX10_passing_8 : decode cX10_passing 8 = .ok (.getfield 9, 3) := by decide +kernel
theorem dX10_passing_11 : decode cX10_passing 11 = .ok (.invokestatic 77, 3) := by decide +kernel
theorem dX10_passing_14 : decode cX10_passing 14 = .ok (.lreturn, 1) := by decide +kernel
theorem dX10_passing_15 : decode cX10_passing 15 = .ok (.lconst 0, 1) := by decide +kernel
theorem dX10_passing_16 : decode cX10_passing 16 = .ok (.lstore_n 2, 1) := by decide +kernel
theorem dX10_passing_17 : decode cX10_passing 17 = .ok (.iconst 0, 1) := by decide +kernel
theorem dX10_passing_18 : decode cX10_passing 18 = .ok (.istore 4, 2) := by decide +kernel
theorem dX10_passing_20 : decode cX10_passing 20 = .ok (.iload 4, 2) := by decide +kernel
theorem dX10_passing_22 : decode cX10_passing 22 = .ok (.aload_n 0, 1) := by decide +kernel
theorem dX10_passing_23 : decode cX10_passing 23 = .ok (.getfield 9, 3) := by decide +kernel
theorem dX10_passing_26 : decode cX10_passing 26 = .ok (.if_icmp .ge 27, 3) := by decide +kernel
theorem dX10_passing_29 : decode cX10_passing 29 = .ok (.aload_n 0, 1) := by decide +kernel
theorem dX10_passing_30 : decode cX10_passing 30 = .ok (.getfield 15, 3) := by decide +kernel
theorem dX10_passing_33 : decode cX10_passing 33 = .ok (.iload 4, 2) := by decide +kernel
theorem dX10_passing_35 : decode cX10_passing 35 = .ok (.iaload, 1) := by decide +kernel
theorem dX10_passing_36 : decode cX10_passing 36 = .ok (.iload_n 1, 1) := by decide +kernel
theorem dX10_passing_37 : decode cX10_passing 37 = .ok (.if_icmp .ne 10, 3) := by decide +kernel
theorem dX10_passing_40 : decode cX10_passing 40 = .ok (.lload_n 2, 1) := by decide +kernel
theorem dX10_passing_41 : decode cX10_passing 41 = .ok (.lconst 1, 1) := by decide +kernel
theorem dX10_passing_42 : decode cX10_passing 42 = .ok (.iload 4, 2) := by decide +kernel
theorem dX10_passing_44 : decode cX10_passing 44 = .ok (.lshl, 1) := by decide +kernel
theorem dX10_passing_45 : decode cX10_passing 45 = .ok (.lor, 1) := by decide +kernel
theorem dX10_passing_46 : decode cX10_passing 46 = .ok (.lstore_n 2, 1) := by decide +kernel
theorem dX10_passing_47 : decode cX10_passing 47 = .ok (.iinc 4 1, 3) := by decide +kernel
theorem dX10_passing_50 : decode cX10_passing 50 = .ok (.goto (-30), 3) := by decide +kernel
theorem dX10_passing_53 : decode cX10_passing 53 = .ok (.lload_n 2, 1) := by decide +kernel
theorem dX10_passing_54 : decode cX10_passing 54 = .ok (.lreturn, 1) := by decide +kernel
theorem dX10_valued_0 : decode cX10_valued 0 = .ok (.lconst 0, 1) := by decide +kernel
theorem dX10_valued_1 : decode cX10_valued 1 = .ok (.lstore_n 2, 1) := by decide +kernel
theorem dX10_valued_2 : decode cX10_valued 2 = .ok (.iconst 0, 1) := by decide +kernel
theorem dX10_valued_3 : decode cX10_valued 3 = .ok (.istore 4, 2) := by decide +kernel
theorem dX10_valued_5 : decode cX10_valued 5 = .ok (.iload 4, 2) := by decide +kernel
theorem dX10_valued_7 : decode cX10_valued 7 = .ok (.aload_n 0, 1) := by decide +kernel
theorem dX10_valued_8 : decode cX10_valued 8 = .ok (.getfield 9, 3) := by decide +kernel
theorem dX10_valued_11 : decode cX10_valued 11 = .ok (.if_icmp .ge 27, 3) := by decide +kernel
theorem dX10_valued_14 : decode cX10_valued 14 = .ok (.aload_n 0, 1) := by decide +kernel
theorem dX10_valued_15 : decode cX10_valued 15 = .ok (.getfield 19, 3) := by decide +kernel
theorem dX10_valued_18 : decode cX10_valued 18 = .ok (.iload 4, 2) := by decide +kernel
theorem dX10_valued_20 : decode cX10_valued 20 = .ok (.iaload, 1) := by decide +kernel
theorem dX10_valued_21 : decode cX10_valued 21 = .ok (.iload_n 1, 1) := by decide +kernel
theorem dX10_valued_22 : decode cX10_valued 22 = .ok (.if_icmp .ne 10, 3) := by decide +kernel
theorem dX10_valued_25 : decode cX10_valued 25 = .ok (.lload_n 2, 1) := by decide +kernel
theorem dX10_valued_26 : decode cX10_valued 26 = .ok (.lconst 1, 1) := by decide +kernel
theorem dX10_valued_27 : decode cX10_valued 27 = .ok (.iload 4, 2) := by decide +kernel
theorem dX10_valued_29 : decode cX10_valued 29 = .ok (.lshl, 1) := by decide +kernel
theorem dX10_valued_30 : decode cX10_valued 30 = .ok (.lor, 1) := by decide +kernel
theorem dX10_valued_31 : decode cX10_valued 31 = .ok (.lstore_n 2, 1) := by decide +kernel
theorem dX10_valued_32 : decode cX10_valued 32 = .ok (.iinc 4 1, 3) := by decide +kernel
theorem dX10_valued_35 : decode cX10_valued 35 = .ok (.goto (-30), 3) := by decide +kernel
theorem dX10_valued_38 : decode cX10_valued 38 = .ok (.lload_n 2, 1) := by decide +kernel
theorem dX10_valued_39 : decode cX10_valued 39 = .ok (.lreturn, 1) := by decide +kernel
theorem dX10_leadingTo_0 : decode cX10_leadingTo 0 = .ok (.lconst 0, 1) := by decide +kernel
theorem dX10_leadingTo_1 : decode cX10_leadingTo 1 = .ok (.lstore 4, 2) := by decide +kernel
theorem dX10_leadingTo_3 : decode cX10_leadingTo 3 = .ok (.iconst 0, 1) := by decide +kernel
theorem dX10_leadingTo_4 : decode cX10_leadingTo 4 = .ok (.istore 6, 2) := by decide +kernel
theorem dX10_leadingTo_6 : decode cX10_leadingTo 6 = .ok (.iload 6, 2) := by decide +kernel
theorem dX10_leadingTo_8 : decode cX10_leadingTo 8 = .ok (.aload_n 0, 1) := by decide +kernel
theorem dX10_leadingTo_9 : decode cX10_leadingTo 9 = .ok (.getfield 9, 3) := by decide +kernel
theorem dX10_leadingTo_12 : decode cX10_leadingTo 12 = .ok (.if_icmp .ge 32, 3) := by decide +kernel
theorem dX10_leadingTo_15 : decode cX10_leadingTo 15 = .ok (.aload_n 0, 1) := by decide +kernel
theorem dX10_leadingTo_16 : decode cX10_leadingTo 16 = .ok (.iload_n 3, 1) := by decide +kernel
theorem dX10_leadingTo_17 : decode cX10_leadingTo 17 = .ok (.iload 6, 2) := by decide +kernel
theorem dX10_leadingTo_19 : decode cX10_leadingTo 19 = .ok (.invokevirtual 87, 3) := by decide +kernel
theorem dX10_leadingTo_22 : decode cX10_leadingTo 22 = .ok (.lload_n 1, 1) := by decide +kernel
theorem dX10_leadingTo_23 : decode cX10_leadingTo 23 = .ok (.land, 1) := by decide +kernel
theorem dX10_leadingTo_24 : decode cX10_leadingTo 24 = .ok (.lconst 0, 1) := by decide +kernel
theorem dX10_leadingTo_25 : decode cX10_leadingTo 25 = .ok (.lcmp, 1) := by decide +kernel
theorem dX10_leadingTo_26 : decode cX10_leadingTo 26 = .ok (.ifCond .eq 12, 3) := by decide +kernel
theorem dX10_leadingTo_29 : decode cX10_leadingTo 29 = .ok (.lload 4, 2) := by decide +kernel
theorem dX10_leadingTo_31 : decode cX10_leadingTo 31 = .ok (.lconst 1, 1) := by decide +kernel
theorem dX10_leadingTo_32 : decode cX10_leadingTo 32 = .ok (.iload 6, 2) := by decide +kernel
theorem dX10_leadingTo_34 : decode cX10_leadingTo 34 = .ok (.lshl, 1) := by decide +kernel
theorem dX10_leadingTo_35 : decode cX10_leadingTo 35 = .ok (.lor, 1) := by decide +kernel
theorem dX10_leadingTo_36 : decode cX10_leadingTo 36 = .ok (.lstore 4, 2) := by decide +kernel
theorem dX10_leadingTo_38 : decode cX10_leadingTo 38 = .ok (.iinc 6 1, 3) := by decide +kernel
theorem dX10_leadingTo_41 : decode cX10_leadingTo 41 = .ok (.goto (-35), 3) := by decide +kernel
theorem dX10_leadingTo_44 : decode cX10_leadingTo 44 = .ok (.lload 4, 2) := by decide +kernel
theorem dX10_leadingTo_46 : decode cX10_leadingTo 46 = .ok (.lreturn, 1) := by decide +kernel
theorem dX10_totalOf_0 : decode cX10_totalOf 0 = .ok (.iconst 0, 1) := by decide +kernel
theorem dX10_totalOf_1 : decode cX10_totalOf 1 = .ok (.istore_n 3, 1) := by decide +kernel
theorem dX10_totalOf_2 : decode cX10_totalOf 2 = .ok (.iconst 0, 1) := by decide +kernel
theorem dX10_totalOf_3 : decode cX10_totalOf 3 = .ok (.istore 4, 2) := by decide +kernel
theorem dX10_totalOf_5 : decode cX10_totalOf 5 = .ok (.iload 4, 2) := by decide +kernel
theorem dX10_totalOf_7 : decode cX10_totalOf 7 = .ok (.aload_n 0, 1) := by decide +kernel
theorem dX10_totalOf_8 : decode cX10_totalOf 8 = .ok (.getfield 9, 3) := by decide +kernel
theorem dX10_totalOf_11 : decode cX10_totalOf 11 = .ok (.if_icmp .ge 30, 3) := by decide +kernel
theorem dX10_totalOf_14 : decode cX10_totalOf 14 = .ok (.lload_n 1, 1) := by decide +kernel
theorem dX10_totalOf_15 : decode cX10_totalOf 15 = .ok (.iload 4, 2) := by decide +kernel
theorem dX10_totalOf_17 : decode cX10_totalOf 17 = .ok (.lshr, 1) := by decide +kernel
theorem dX10_totalOf_18 : decode cX10_totalOf 18 = .ok (.lconst 1, 1) := by decide +kernel
theorem dX10_totalOf_19 : decode cX10_totalOf 19 = .ok (.land, 1) := by decide +kernel
theorem dX10_totalOf_20 : decode cX10_totalOf 20 = .ok (.lconst 0, 1) := by decide +kernel
theorem dX10_totalOf_21 : decode cX10_totalOf 21 = .ok (.lcmp, 1) := by decide +kernel
theorem dX10_totalOf_22 : decode cX10_totalOf 22 = .ok (.ifCond .eq 13, 3) := by decide +kernel
theorem dX10_totalOf_25 : decode cX10_totalOf 25 = .ok (.iload_n 3, 1) := by decide +kernel
theorem dX10_totalOf_26 : decode cX10_totalOf 26 = .ok (.aload_n 0, 1) := by decide +kernel
theorem dX10_totalOf_27 : decode cX10_totalOf 27 = .ok (.getfield 19, 3) := by decide +kernel
theorem dX10_totalOf_30 : decode cX10_totalOf 30 = .ok (.iload 4, 2) := by decide +kernel
theorem dX10_totalOf_32 : decode cX10_totalOf 32 = .ok (.iaload, 1) := by decide +kernel
theorem dX10_totalOf_33 : decode cX10_totalOf 33 = .ok (.iadd, 1) := by decide +kernel
theorem dX10_totalOf_34 : decode cX10_totalOf 34 = .ok (.istore_n 3, 1) := by decide +kernel
theorem dX10_totalOf_35 : decode cX10_totalOf 35 = .ok (.iinc 4 1, 3) := by decide +kernel
theorem dX10_totalOf_38 : decode cX10_totalOf 38 = .ok (.goto (-33), 3) := by decide +kernel
theorem dX10_totalOf_41 : decode cX10_totalOf 41 = .ok (.iload_n 3, 1) := by decide +kernel
theorem dX10_totalOf_42 : decode cX10_totalOf 42 = .ok (.ireturn, 1) := by decide +kernel
theorem dX10_range_0 : decode cX10_range 0 = .ok (.iload_n 1, 1) := by decide +kernel
theorem dX10_range_1 : decode cX10_range 1 = .ok (.iload_n 0, 1) := by decide +kernel
theorem dX10_range_2 : decode cX10_range 2 = .ok (.if_icmp .le 13, 3) := by decide +kernel
theorem dX10_range_5 : decode cX10_range 5 = .ok (.lconst 1, 1) := by decide +kernel
theorem dX10_range_6 : decode cX10_range 6 = .ok (.iload_n 1, 1) := by decide +kernel
theorem dX10_range_7 : decode cX10_range 7 = .ok (.lshl, 1) := by decide +kernel
theorem dX10_range_8 : decode cX10_range 8 = .ok (.lconst 1, 1) := by decide +kernel
theorem dX10_range_9 : decode cX10_range 9 = .ok (.iload_n 0, 1) := by decide +kernel
theorem dX10_range_10 : decode cX10_range 10 = .ok (.lshl, 1) := by decide +kernel
theorem dX10_range_11 : decode cX10_range 11 = .ok (.lsub, 1) := by decide +kernel
theorem dX10_range_12 : decode cX10_range 12 = .ok (.goto 4, 3) := by decide +kernel
theorem dX10_range_15 : decode cX10_range 15 = .ok (.lconst 0, 1) := by decide +kernel
theorem dX10_range_16 : decode cX10_range 16 = .ok (.lreturn, 1) := by decide +kernel
theorem dX10_nth_0 : decode cX10_nth 0 = .ok (.lload_n 0, 1) := by decide +kernel
theorem dX10_nth_1 : decode cX10_nth 1 = .ok (.lstore_n 3, 1) := by decide +kernel
theorem dX10_nth_2 : decode cX10_nth 2 = .ok (.iconst 0, 1) := by decide +kernel
theorem dX10_nth_3 : decode cX10_nth 3 = .ok (.istore 5, 2) := by decide +kernel
theorem dX10_nth_5 : decode cX10_nth 5 = .ok (.iload 5, 2) := by decide +kernel
theorem dX10_nth_7 : decode cX10_nth 7 = .ok (.iload_n 2, 1) := by decide +kernel
theorem dX10_nth_8 : decode cX10_nth 8 = .ok (.if_icmp .ge 15, 3) := by decide +kernel
theorem dX10_nth_11 : decode cX10_nth 11 = .ok (.lload_n 3, 1) := by decide +kernel
theorem dX10_nth_12 : decode cX10_nth 12 = .ok (.lload_n 3, 1) := by decide +kernel
theorem dX10_nth_13 : decode cX10_nth 13 = .ok (.lconst 1, 1) := by decide +kernel
theorem dX10_nth_14 : decode cX10_nth 14 = .ok (.lsub, 1) := by decide +kernel
theorem dX10_nth_15 : decode cX10_nth 15 = .ok (.land, 1) := by decide +kernel
theorem dX10_nth_16 : decode cX10_nth 16 = .ok (.lstore_n 3, 1) := by decide +kernel
theorem dX10_nth_17 : decode cX10_nth 17 = .ok (.iinc 5 1, 3) := by decide +kernel
theorem dX10_nth_20 : decode cX10_nth 20 = .ok (.goto (-15), 3) := by decide +kernel
theorem dX10_nth_23 : decode cX10_nth 23 = .ok (.lload_n 3, 1) := by decide +kernel
theorem dX10_nth_24 : decode cX10_nth 24 = .ok (.lload_n 3, 1) := by decide +kernel
theorem dX10_nth_25 : decode cX10_nth 25 = .ok (.lneg, 1) := by decide +kernel
theorem dX10_nth_26 : decode cX10_nth 26 = .ok (.land, 1) := by decide +kernel
theorem dX10_nth_27 : decode cX10_nth 27 = .ok (.lreturn, 1) := by decide +kernel
theorem dX10_position_0 : decode cX10_position 0 = .ok (.lload_n 0, 1) := by decide +kernel
theorem dX10_position_1 : decode cX10_position 1 = .ok (.lload_n 0, 1) := by decide +kernel
theorem dX10_position_2 : decode cX10_position 2 = .ok (.lneg, 1) := by decide +kernel
theorem dX10_position_3 : decode cX10_position 3 = .ok (.land, 1) := by decide +kernel
theorem dX10_position_4 : decode cX10_position 4 = .ok (.lconst 1, 1) := by decide +kernel
theorem dX10_position_5 : decode cX10_position 5 = .ok (.lsub, 1) := by decide +kernel
theorem dX10_position_6 : decode cX10_position 6 = .ok (.invokestatic 71, 3) := by decide +kernel
theorem dX10_position_9 : decode cX10_position 9 = .ok (.ireturn, 1) := by decide +kernel
theorem dX11_init_0 : decode cX11_init 0 = .ok (.aload_n 0, 1) := by decide +kernel
theorem dX11_init_1 : decode cX11_init 1 = .ok (.invokespecial 3, 3) := by decide +kernel
theorem dX11_init_4 : decode cX11_init 4 = .ok (.aload_n 0, 1) := by decide +kernel
theorem dX11_init_5 : decode cX11_init 5 = .ok (.new 9, 3) := by decide +kernel
theorem dX11_init_8 : decode cX11_init 8 = .ok (.dup, 1) := by decide +kernel
theorem dX11_init_9 : decode cX11_init 9 = .ok (.invokespecial 11, 3) := by decide +kernel
theorem dX11_init_12 : decode cX11_init 12 = .ok (.putfield 12, 3) := by decide +kernel
theorem dX11_init_15 : decode cX11_init 15 = .ok (.aload_n 0, 1) := by decide +kernel
theorem dX11_init_16 : decode cX11_init 16 = .ok (.new 16, 3) := by decide +kernel
theorem dX11_init_19 : decode cX11_init 19 = .ok (.dup, 1) := by decide +kernel
theorem dX11_init_20 : decode cX11_init 20 = .ok (.invokespecial 18, 3) := by decide +kernel
theorem dX11_init_23 : decode cX11_init 23 = .ok (.putfield 19, 3) := by decide +kernel
theorem dX11_init_26 : decode cX11_init 26 = .ok (.aload_n 0, 1) := by decide +kernel
theorem dX11_init_27 : decode cX11_init 27 = .ok (.new 23, 3) := by decide +kernel
theorem dX11_init_30 : decode cX11_init 30 = .ok (.dup, 1) := by decide +kernel
theorem dX11_init_31 : decode cX11_init 31 = .ok (.bipush 80, 2) := by decide +kernel
theorem dX11_init_33 : decode cX11_init 33 = .ok (.invokespecial 25, 3) := by decide +kernel
theorem dX11_init_36 : decode cX11_init 36 = .ok (.putfield 28, 3) := by decide +kernel
theorem dX11_init_39 : decode cX11_init 39 = .ok (.aload_n 0, 1) := by decide +kernel
theorem dX11_init_40 : decode cX11_init 40 = .ok (.new 23, 3) := by decide +kernel
theorem dX11_init_43 : decode cX11_init 43 = .ok (.dup, 1) := by decide +kernel
theorem dX11_init_44 : decode cX11_init 44 = .ok (.sipush 1024, 3) := by decide +kernel
theorem dX11_init_47 : decode cX11_init 47 = .ok (.invokespecial 25, 3) := by decide +kernel
theorem dX11_init_50 : decode cX11_init 50 = .ok (.putfield 32, 3) := by decide +kernel
theorem dX11_init_53 : decode cX11_init 53 = .ok (.aload_n 0, 1) := by decide +kernel
theorem dX11_init_54 : decode cX11_init 54 = .ok (.new 35, 3) := by decide +kernel
theorem dX11_init_57 : decode cX11_init 57 = .ok (.dup, 1) := by decide +kernel
theorem dX11_init_58 : decode cX11_init 58 = .ok (.invokespecial 37, 3) := by decide +kernel
theorem dX11_init_61 : decode cX11_init 61 = .ok (.putfield 38, 3) := by decide +kernel
theorem dX11_init_64 : decode cX11_init 64 = .ok (.aload_n 0, 1) := by decide +kernel
theorem dX11_init_65 : decode cX11_init 65 = .ok (.new 42, 3) := by decide +kernel
theorem dX11_init_68 : decode cX11_init 68 = .ok (.dup, 1) := by decide +kernel
theorem dX11_init_69 : decode cX11_init 69 = .ok (.invokespecial 44, 3) := by decide +kernel
theorem dX11_init_72 : decode cX11_init 72 = .ok (.putfield 45, 3) := by decide +kernel
theorem dX11_init_75 : decode cX11_init 75 = .ok (.aload_n 0, 1) := by decide +kernel
theorem dX11_init_76 : decode cX11_init 76 = .ok (.new 49, 3) := by decide +kernel
theorem dX11_init_79 : decode cX11_init 79 = .ok (.dup, 1) := by decide +kernel
theorem dX11_init_80 : decode cX11_init 80 = .ok (.invokespecial 51, 3) := by decide +kernel
theorem dX11_init_83 : decode cX11_init 83 = .ok (.putfield 52, 3) := by decide +kernel
theorem dX11_init_86 : decode cX11_init 86 = .ok (.aload_n 0, 1) := by decide +kernel
theorem dX11_init_87 : decode cX11_init 87 = .ok (.new 56, 3) := by decide +kernel
theorem dX11_init_90 : decode cX11_init 90 = .ok (.dup, 1) := by decide +kernel
theorem dX11_init_91 : decode cX11_init 91 = .ok (.invokespecial 58, 3) := by decide +kernel
theorem dX11_init_94 : decode cX11_init 94 = .ok (.putfield 59, 3) := by decide +kernel
theorem dX11_init_97 : decode cX11_init 97 = .ok (.aload_n 0, 1) := by decide +kernel
theorem dX11_init_98 : decode cX11_init 98 = .ok (.new 56, 3) := by decide +kernel
theorem dX11_init_101 : decode cX11_init 101 = .ok (.dup, 1) := by decide +kernel
theorem dX11_init_102 : decode cX11_init 102 = .ok (.invokespecial 58, 3) := by decide +kernel
theorem dX11_init_105 : decode cX11_init 105 = .ok (.putfield 63, 3) := by decide +kernel
theorem dX11_init_108 : decode cX11_init 108 = .ok (.return_, 1) := by decide +kernel
theorem dX11_addNode_0 : decode cX11_addNode 0 = .ok (.aload_n 0, 1) := by decide +kernel
theorem dX11_addNode_1 : decode cX11_addNode 1 = .ok (.iload_n 1, 1) := by decide +kernel
theorem dX11_addNode_2 : decode cX11_addNode 2 = .ok (.invokevirtual 66, 3) := by decide +kernel
theorem dX11_addNode_5 : decode cX11_addNode 5 = .ok (.aload_n 0, 1) := by decide +kernel
theorem dX11_addNode_6 : decode cX11_addNode 6 = .ok (.iload_n 2, 1) := by decide +kernel
theorem dX11_addNode_7 : decode cX11_addNode 7 = .ok (.bipush 8, 2) := by decide +kernel
theorem dX11_addNode_9 : decode cX11_addNode 9 = .ok (.invokevirtual 69, 3) := by decide +kernel
theorem dX11_addNode_12 : decode cX11_addNode 12 = .ok (.aload_n 0, 1) := by decide +kernel
theorem dX11_addNode_13 : decode cX11_addNode 13 = .ok (.iload_n 3, 1) := by decide +kernel
theorem dX11_addNode_14 : decode cX11_addNode 14 = .ok (.bipush 10, 2) := by decide +kernel
theorem dX11_addNode_16 : decode cX11_addNode 16 = .ok (.invokevirtual 69, 3) := by decide +kernel
theorem dX11_addNode_19 : decode cX11_addNode 19 = .ok (.aload_n 0, 1) := by decide +kernel
theorem dX11_addNode_20 : decode cX11_addNode 20 = .ok (.getfield 12, 3) := by decide +kernel
theorem dX11_addNode_23 : decode cX11_addNode 23 = .ok (.getfield 73, 3) := by decide +kernel
theorem dX11_addNode_26 : decode cX11_addNode 26 = .ok (.getfield 77, 3) := by decide +kernel
theorem dX11_addNode_29 : decode cX11_addNode 29 = .ok (.bipush 40, 2) := by decide +kernel
theorem dX11_addNode_31 : decode cX11_addNode 31 = .ok (.if_icmp .lt 13, 3) := by decide +kernel
theorem dX11_addNode_34 : decode cX11_addNode 34 = .ok (.new 83, 3) := by decide +kernel
theorem dX11_addNode_37 : decode cX11_addNode 37 = .ok (.dup, 1) := by decide +kernel
theorem dX11_addNode_38 : decode cX11_addNode 38 = .ok (.ldc 85, 2) := by decide +kernel
theorem dX11_addNode_40 : decode cX11_addNode 40 = .ok (.invokespecial 87, 3) := by decide +kernel
theorem dX11_addNode_43 : decode cX11_addNode 43 = .ok (.athrow, 1) := by decide +kernel
theorem dX11_addNode_44 : decode cX11_addNode 44 = .ok (.aload_n 0, 1) := by decide +kernel
theorem dX11_addNode_45 : decode cX11_addNode 45 = .ok (.getfield 19, 3) := by decide +kernel
theorem dX11_addNode_48 : decode cX11_addNode 48 = .ok (.aload_n 0, 1) := by decide +kernel
theorem dX11_addNode_49 : decode cX11_addNode 49 = .ok (.getfield 12, 3) := by decide +kernel
theorem dX11_addNode_52 : decode cX11_addNode 52 = .ok (.invokevirtual 90, 3) := by decide +kernel
theorem dX11_addNode_55 : decode cX11_addNode 55 = .ok (.aload_n 0, 1) := by decide +kernel
theorem dX11_addNode_56 : decode cX11_addNode 56 = .ok (.getfield 12, 3) := by decide +kernel
theorem dX11_addNode_59 : decode cX11_addNode 59 = .ok (.getfield 73, 3) := by decide +kernel
theorem dX11_addNode_62 : decode cX11_addNode 62 = .ok (.iload_n 1, 1) := by decide +kernel
theorem dX11_addNode_63 : decode cX11_addNode 63 = .ok (.iload_n 2, 1) := by decide +kernel
theorem dX11_addNode_64 : decode cX11_addNode 64 = .ok (.iload_n 3, 1) := by decide +kernel
theorem dX11_addNode_65 : decode cX11_addNode 65 = .ok (.invokevirtual 94, 3) := by decide +kernel
theorem dX11_addNode_68 : decode cX11_addNode 68 = .ok (.ireturn, 1) := by decide +kernel
theorem dX11_removeNode_0 : decode cX11_removeNode 0 = .ok (.aload_n 0, 1) := by decide +kernel
theorem dX11_removeNode_1 : decode cX11_removeNode 1 = .ok (.iload_n 1, 1) := by decide +kernel
theorem dX11_removeNode_2 : decode cX11_removeNode 2 = .ok (.invokevirtual 66, 3) := by decide +kernel
theorem dX11_removeNode_5 : decode cX11_removeNode 5 = .ok (.iload_n 1, 1) := by decide +kernel
theorem dX11_removeNode_6 : decode cX11_removeNode 6 = .ok (.ifCond .ne 13, 3) := by decide +kernel
theorem dX11_removeNode_9 : decode cX11_removeNode 9 = .ok (.new 98, 3) := by decide +kernel
theorem dX11_removeNode_12 : decode cX11_removeNode 12 = .ok (.dup, 1) := by decide +kernel
theorem dX11_removeNode_13 : decode cX11_removeNode 13 = .ok (.ldc 100, 2) := by decide +kernel
theorem dX11_removeNode_15 : decode cX11_removeNode 15 = .ok (.invokespecial 102, 3) := by decide +kernel
theorem dX11_removeNode_18 : decode cX11_removeNode 18 = .ok (.athrow, 1) := by decide +kernel
theorem dX11_removeNode_19 : decode cX11_removeNode 19 = .ok (.aload_n 0, 1) := by decide +kernel
theorem dX11_removeNode_20 : decode cX11_removeNode 20 = .ok (.getfield 19, 3) := by decide +kernel
theorem dX11_removeNode_23 : decode cX11_removeNode 23 = .ok (.aload_n 0, 1) := by decide +kernel
theorem dX11_removeNode_24 : decode cX11_removeNode 24 = .ok (.getfield 12, 3) := by decide +kernel
theorem dX11_removeNode_27 : decode cX11_removeNode 27 = .ok (.invokevirtual 90, 3) := by decide +kernel
theorem dX11_removeNode_30 : decode cX11_removeNode 30 = .ok (.aload_n 0, 1) := by decide +kernel
theorem dX11_removeNode_31 : decode cX11_removeNode 31 = .ok (.getfield 12, 3) := by decide +kernel
theorem dX11_removeNode_34 : decode cX11_removeNode 34 = .ok (.getfield 73, 3) := by decide +kernel
theorem dX11_removeNode_37 : decode cX11_removeNode 37 = .ok (.iload_n 1, 1) := by decide +kernel
theorem dX11_removeNode_38 : decode cX11_removeNode 38 = .ok (.invokevirtual 103, 3) := by decide +kernel
theorem dX11_removeNode_41 : decode cX11_removeNode 41 = .ok (.ireturn, 1) := by decide +kernel
theorem dX11_moveNode_0 : decode cX11_moveNode 0 = .ok (.aload_n 0, 1) := by decide +kernel
theorem dX11_moveNode_1 : decode cX11_moveNode 1 = .ok (.iload_n 1, 1) := by decide +kernel
theorem dX11_moveNode_2 : decode cX11_moveNode 2 = .ok (.invokevirtual 66, 3) := by decide +kernel
theorem dX11_moveNode_5 : decode cX11_moveNode 5 = .ok (.aload_n 0, 1) := by decide +kernel
theorem dX11_moveNode_6 : decode cX11_moveNode 6 = .ok (.iload_n 2, 1) := by decide +kernel
theorem dX11_moveNode_7 : decode cX11_moveNode 7 = .ok (.invokevirtual 66, 3) := by decide +kernel
theorem dX11_moveNode_10 : decode cX11_moveNode 10 = .ok (.iload_n 2, 1) := by decide +kernel
theorem dX11_moveNode_11 : decode cX11_moveNode 11 = .ok (.iload_n 1, 1) := by decide +kernel
theorem dX11_moveNode_12 : decode cX11_moveNode 12 = .ok (.if_icmp .lt 29, 3) := by decide +kernel
theorem dX11_moveNode_15 : decode cX11_moveNode 15 = .ok (.iload_n 2, 1) := by decide +kernel
theorem dX11_moveNode_16 : decode cX11_moveNode 16 = .ok (.aload_n 0, 1) := by decide +kernel
theorem dX11_moveNode_17 : decode cX11_moveNode 17 = .ok (.getfield 12, 3) := by decide +kernel
theorem dX11_moveNode_20 : decode cX11_moveNode 20 = .ok (.getfield 73, 3) := by decide +kernel
theorem dX11_moveNode_23 : decode cX11_moveNode 23 = .ok (.getfield 107, 3) := by decide +kernel
theorem dX11_moveNode_26 : decode cX11_moveNode 26 = .ok (.iload_n 1, 1) := by decide +kernel
theorem dX11_moveNode_27 : decode cX11_moveNode 27 = .ok (.iaload, 1) := by decide +kernel
theorem dX11_moveNode_28 : decode cX11_moveNode 28 = .ok (.if_icmp .gt 13, 3) := by decide +kernel
theorem dX11_moveNode_31 : decode cX11_moveNode 31 = .ok (.new 98, 3) := by decide +kernel
theorem dX11_moveNode_34 : decode cX11_moveNode 34 = .ok (.dup, 1) := by decide +kernel
theorem dX11_moveNode_35 : decode cX11_moveNode 35 = .ok (.ldc 111, 2) := by decide +kernel
theorem dX11_moveNode_37 : decode cX11_moveNode 37 = .ok (.invokespecial 102, 3) := by decide +kernel
theorem dX11_moveNode_40 : decode cX11_moveNode 40 = .ok (.athrow, 1) := by decide +kernel
theorem dX11_moveNode_41 : decode cX11_moveNode 41 = .ok (.aload_n 0, 1) := by decide +kernel
theorem dX11_moveNode_42 : decode cX11_moveNode 42 = .ok (.getfield 19, 3) := by decide +kernel
theorem dX11_moveNode_45 : decode cX11_moveNode 45 = .ok (.aload_n 0, 1) := by decide +kernel
theorem dX11_moveNode_46 : decode cX11_moveNode 46 = .ok (.getfield 12, 3) := by decide +kernel
theorem dX11_moveNode_49 : decode cX11_moveNode 49 = .ok (.invokevirtual 90, 3) := by decide +kernel
theorem dX11_moveNode_52 : decode cX11_moveNode 52 = .ok (.aload_n 0, 1) := by decide +kernel
theorem dX11_moveNode_53 : decode cX11_moveNode 53 = .ok (.getfield 12, 3) := by decide +kernel
theorem dX11_moveNode_56 : decode cX11_moveNode 56 = .ok (.getfield 73, 3) := by decide +kernel
theorem dX11_moveNode_59 : decode cX11_moveNode 59 = .ok (.iload_n 1, 1) := by decide +kernel
theorem dX11_moveNode_60 : decode cX11_moveNode 60 = .ok (.iload_n 2, 1) := by decide +kernel
theorem dX11_moveNode_61 : decode cX11_moveNode 61 = .ok (.invokevirtual 113, 3) := by decide +kernel
theorem dX11_moveNode_64 : decode cX11_moveNode 64 = .ok (.ireturn, 1) := by decide +kernel
theorem dX11_setNode_0 : decode cX11_setNode 0 = .ok (.aload_n 0, 1) := by decide +kernel
theorem dX11_setNode_1 : decode cX11_setNode 1 = .ok (.iload_n 1, 1) := by decide +kernel
theorem dX11_setNode_2 : decode cX11_setNode 2 = .ok (.invokevirtual 66, 3) := by decide +kernel
theorem dX11_setNode_5 : decode cX11_setNode 5 = .ok (.aload_n 0, 1) := by decide +kernel
theorem dX11_setNode_6 : decode cX11_setNode 6 = .ok (.iload_n 2, 1) := by decide +kernel
theorem dX11_setNode_7 : decode cX11_setNode 7 = .ok (.bipush 8, 2) := by decide +kernel
theorem dX11_setNode_9 : decode cX11_setNode 9 = .ok (.invokevirtual 69, 3) := by decide +kernel
theorem dX11_setNode_12 : decode cX11_setNode 12 = .ok (.aload_n 0, 1) := by decide +kernel
theorem dX11_setNode_13 : decode cX11_setNode 13 = .ok (.iload_n 3, 1) := by decide +kernel
theorem dX11_setNode_14 : decode cX11_setNode 14 = .ok (.bipush 10, 2) := by decide +kernel
theorem dX11_setNode_16 : decode cX11_setNode 16 = .ok (.invokevirtual 69, 3) := by decide +kernel
theorem dX11_setNode_19 : decode cX11_setNode 19 = .ok (.aload_n 0, 1) := by decide +kernel
theorem dX11_setNode_20 : decode cX11_setNode 20 = .ok (.getfield 19, 3) := by decide +kernel
theorem dX11_setNode_23 : decode cX11_setNode 23 = .ok (.aload_n 0, 1) := by decide +kernel
theorem dX11_setNode_24 : decode cX11_setNode 24 = .ok (.getfield 12, 3) := by decide +kernel
theorem dX11_setNode_27 : decode cX11_setNode 27 = .ok (.invokevirtual 90, 3) := by decide +kernel
theorem dX11_setNode_30 : decode cX11_setNode 30 = .ok (.bipush 10, 2) := by decide +kernel
theorem dX11_setNode_32 : decode cX11_setNode 32 = .ok (.aload_n 0, 1) := by decide +kernel
theorem dX11_setNode_33 : decode cX11_setNode 33 = .ok (.getfield 12, 3) := by decide +kernel
theorem dX11_setNode_36 : decode cX11_setNode 36 = .ok (.getfield 73, 3) := by decide +kernel
theorem dX11_setNode_39 : decode cX11_setNode 39 = .ok (.getfield 117, 3) := by decide +kernel
theorem dX11_setNode_42 : decode cX11_setNode 42 = .ok (.iload_n 1, 1) := by decide +kernel
theorem dX11_setNode_43 : decode cX11_setNode 43 = .ok (.iaload, 1) := by decide +kernel
theorem dX11_setNode_44 : decode cX11_setNode 44 = .ok (.imul, 1) := by decide +kernel
theorem dX11_setNode_45 : decode cX11_setNode 45 = .ok (.aload_n 0, 1) := by decide +kernel
theorem dX11_setNode_46 : decode cX11_setNode 46 = .ok (.getfield 12, 3) := by decide +kernel
theorem dX11_setNode_49 : decode cX11_setNode 49 = .ok (.getfield 73, 3) := by decide +kernel
theorem dX11_setNode_52 : decode cX11_setNode 52 = .ok (.getfield 120, 3) := by decide +kernel
theorem dX11_setNode_55 : decode cX11_setNode 55 = .ok (.iload_n 1, 1) := by decide +kernel
theorem dX11_setNode_56 : decode cX11_setNode 56 = .ok (.iaload, 1) := by decide +kernel
theorem dX11_setNode_57 : decode cX11_setNode 57 = .ok (.iadd, 1) := by decide +kernel
theorem dX11_setNode_58 : decode cX11_setNode 58 = .ok (.istore 4, 2) := by decide +kernel
theorem dX11_setNode_60 : decode cX11_setNode 60 = .ok (.aload_n 0, 1) := by decide +kernel
theorem dX11_setNode_61 : decode cX11_setNode 61 = .ok (.getfield 12, 3) := by decide +kernel
theorem dX11_setNode_64 : decode cX11_setNode 64 = .ok (.getfield 73, 3) := by decide +kernel
theorem dX11_setNode_67 : decode cX11_setNode 67 = .ok (.getfield 117, 3) := by decide +kernel
theorem dX11_setNode_70 : decode cX11_setNode 70 = .ok (.iload_n 1, 1) := by decide +kernel
theorem dX11_setNode_71 : decode cX11_setNode 71 = .ok (.iload_n 2, 1) := by decide +kernel
theorem dX11_setNode_72 : decode cX11_setNode 72 = .ok (.iastore, 1) := by decide +kernel
theorem dX11_setNode_73 : decode cX11_setNode 73 = .ok (.aload_n 0, 1) := by decide +kernel
theorem dX11_setNode_74 : decode cX11_setNode 74 = .ok (.getfield 12, 3) := by decide +kernel
theorem dX11_setNode_77 : decode cX11_setNode 77 = .ok (.getfield 73, 3) := by decide +kernel
theorem dX11_setNode_80 : decode cX11_setNode 80 = .ok (.getfield 120, 3) := by decide +kernel
theorem dX11_setNode_83 : decode cX11_setNode 83 = .ok (.iload_n 1, 1) := by decide +kernel
theorem dX11_setNode_84 : decode cX11_setNode 84 = .ok (.iload_n 3, 1) := by decide +kernel
theorem dX11_setNode_85 : decode cX11_setNode 85 = .ok (.iastore, 1) := by decide +kernel
theorem dX11_setNode_86 : decode cX11_setNode 86 = .ok (.iload 4, 2) := by decide +kernel
theorem dX11_setNode_88 : decode cX11_setNode 88 = .ok (.ireturn, 1) := by decide +kernel
theorem dX11_nodes_0 : decode cX11_nodes 0 = .ok (.aload_n 0, 1) := by decide +kernel
theorem dX11_nodes_1 : decode cX11_nodes 1 = .ok (.getfield 12, 3) := by decide +kernel
theorem dX11_nodes_4 : decode cX11_nodes 4 = .ok (.getfield 73, 3) := by decide +kernel
theorem dX11_nodes_7 : decode cX11_nodes 7 = .ok (.getfield 77, 3) := by decide +kernel
theorem dX11_nodes_10 : decode cX11_nodes 10 = .ok (.ireturn, 1) := by decide +kernel
theorem dX11_node_0 : decode cX11_node 0 = .ok (.aload_n 0, 1) := by decide +kernel
theorem dX11_node_1 : decode cX11_node 1 = .ok (.iload_n 1, 1) := by decide +kernel
theorem dX11_node_2 : decode cX11_node 2 = .ok (.invokevirtual 66, 3) := by decide +kernel
theorem dX11_node_5 : decode cX11_node 5 = .ok (.aload_n 0, 1) := by decide +kernel
theorem dX11_node_6 : decode cX11_node 6 = .ok (.iload_n 2, 1) := by decide +kernel
theorem dX11_node_7 : decode cX11_node 7 = .ok (.bipush 6, 2) := by decide +kernel
theorem dX11_node_9 : decode cX11_node 9 = .ok (.invokevirtual 69, 3) := by decide +kernel
theorem dX11_node_12 : decode cX11_node 12 = .ok (.aload_n 0, 1) := by decide +kernel
theorem dX11_node_13 : decode cX11_node 13 = .ok (.getfield 12, 3) := by decide +kernel
theorem dX11_node_16 : decode cX11_node 16 = .ok (.getfield 73, 3) := by decide +kernel
theorem dX11_node_19 : decode cX11_node 19 = .ok (.iload_n 1, 1) := by decide +kernel
theorem dX11_node_20 : decode cX11_node 20 = .ok (.iload_n 2, 1) := by decide +kernel
theorem dX11_node_21 : decode cX11_node 21 = .ok (.invokevirtual 123, 3) := by decide +kernel
theorem dX11_node_24 : decode cX11_node 24 = .ok (.ireturn, 1) := by decide +kernel
theorem dX11_axis_0 : decode cX11_axis 0 = .ok (.aload_n 0, 1) := by decide +kernel
theorem dX11_axis_1 : decode cX11_axis 1 = .ok (.iload_n 1, 1) := by decide +kernel
theorem dX11_axis_2 : decode cX11_axis 2 = .ok (.invokevirtual 66, 3) := by decide +kernel
theorem dX11_axis_5 : decode cX11_axis 5 = .ok (.aload_n 0, 1) := by decide +kernel
theorem dX11_axis_6 : decode cX11_axis 6 = .ok (.iload_n 2, 1) := by decide +kernel
theorem dX11_axis_7 : decode cX11_axis 7 = .ok (.bipush 10, 2) := by decide +kernel
theorem dX11_axis_9 : decode cX11_axis 9 = .ok (.invokevirtual 69, 3) := by decide +kernel
theorem dX11_axis_12 : decode cX11_axis 12 = .ok (.aload_n 0, 1) := by decide +kernel
theorem dX11_axis_13 : decode cX11_axis 13 = .ok (.iload_n 3, 1) := by decide +kernel
theorem dX11_axis_14 : decode cX11_axis 14 = .ok (.invokevirtual 126, 3) := by decide +kernel
theorem dX11_axis_17 : decode cX11_axis 17 = .ok (.aload_n 0, 1) := by decide +kernel
theorem dX11_axis_18 : decode cX11_axis 18 = .ok (.getfield 12, 3) := by decide +kernel
theorem dX11_axis_21 : decode cX11_axis 21 = .ok (.getfield 73, 3) := by decide +kernel
theorem dX11_axis_24 : decode cX11_axis 24 = .ok (.iload_n 2, 1) := by decide +kernel
theorem dX11_axis_25 : decode cX11_axis 25 = .ok (.iload_n 1, 1) := by decide +kernel
theorem dX11_axis_26 : decode cX11_axis 26 = .ok (.invokevirtual 129, 3) := by decide +kernel
theorem dX11_axis_29 : decode cX11_axis 29 = .ok (.lstore 4, 2) := by decide +kernel
theorem dX11_axis_31 : decode cX11_axis 31 = .ok (.lload 4, 2) := by decide +kernel
theorem dX11_axis_33 : decode cX11_axis 33 = .ok (.invokestatic 133, 3) := by decide +kernel
theorem dX11_axis_36 : decode cX11_axis 36 = .ok (.istore 6, 2) := by decide +kernel
theorem dX11_axis_38 : decode cX11_axis 38 = .ok (.iload_n 3, 1) := by decide +kernel
theorem dX11_axis_39 : decode cX11_axis 39 = .ok (.iload 6, 2) := by decide +kernel
theorem dX11_axis_41 : decode cX11_axis 41 = .ok (.if_icmp .lt 5, 3) := by decide +kernel
theorem dX11_axis_44 : decode cX11_axis 44 = .ok (.iconst (-1), 1) := by decide +kernel
theorem dX11_axis_45 : decode cX11_axis 45 = .ok (.ireturn, 1) := by decide +kernel
theorem dX11_axis_46 : decode cX11_axis 46 = .ok (.lload 4, 2) := by decide +kernel
theorem dX11_axis_48 : decode cX11_axis 48 = .ok (.iload_n 2, 1) := by decide +kernel
theorem dX11_axis_49 : decode cX11_axis 49 = .ok (.invokestatic 139, 3) := by decide +kernel
theorem dX11_axis_52 : decode cX11_axis 52 = .ok (.ifCond .eq 12, 3) := by decide +kernel
theorem dX11_axis_55 : decode cX11_axis 55 = .ok (.iload 6, 2) := by decide +kernel
theorem dX11_axis_57 : decode cX11_axis 57 = .ok (.iconst 1, 1) := by decide +kernel
theorem dX11_axis_58 : decode cX11_axis 58 = .ok (.isub, 1) := by decide +kernel
theorem dX11_axis_59 : decode cX11_axis 59 = .ok (.iload_n 3, 1) := by decide +kernel
theorem dX11_axis_60 : decode cX11_axis 60 = .ok (.isub, 1) := by decide +kernel
theorem dX11_axis_61 : decode cX11_axis 61 = .ok (.goto 4, 3) := by decide +kernel
theorem dX11_axis_64 : decode cX11_axis 64 = .ok (.iload_n 3, 1) := by decide +kernel
theorem dX11_axis_65 : decode cX11_axis 65 = .ok (.invokestatic 143, 3) := by decide +kernel
theorem dX11_axis_68 : decode cX11_axis 68 = .ok (.invokestatic 147, 3) := by decide +kernel
theorem dX11_axis_71 : decode cX11_axis 71 = .ok (.ireturn, 1) := by decide +kernel
theorem dX11_type_0 : decode cX11_type 0 = .ok (.aload_n 0, 1) := by decide +kernel
theorem dX11_type_1 : decode cX11_type 1 = .ok (.iload_n 1, 1) := by decide +kernel
theorem dX11_type_2 : decode cX11_type 2 = .ok (.sipush 128, 3) := by decide +kernel
theorem dX11_type_5 : decode cX11_type 5 = .ok (.invokevirtual 69, 3) := by decide +kernel
theorem dX11_type_8 : decode cX11_type 8 = .ok (.aload_n 0, 1) := by decide +kernel
theorem dX11_type_9 : decode cX11_type 9 = .ok (.getfield 28, 3) := by decide +kernel
theorem dX11_type_12 : decode cX11_type 12 = .ok (.getfield 150, 3) := by decide +kernel
theorem dX11_type_15 : decode cX11_type 15 = .ok (.bipush 80, 2) := by decide +kernel
theorem dX11_type_17 : decode cX11_type 17 = .ok (.if_icmp .lt 13, 3) := by decide +kernel
theorem dX11_type_20 : decode cX11_type 20 = .ok (.new 83, 3) := by decide +kernel
theorem dX11_type_23 : decode cX11_type 23 = .ok (.dup, 1) := by decide +kernel
theorem dX11_type_24 : decode cX11_type 24 = .ok (.ldc 151, 2) := by decide +kernel
theorem dX11_type_26 : decode cX11_type 26 = .ok (.invokespecial 87, 3) := by decide +kernel
theorem dX11_type_29 : decode cX11_type 29 = .ok (.athrow, 1) := by decide +kernel
theorem dX11_type_30 : decode cX11_type 30 = .ok (.aload_n 0, 1) := by decide +kernel
theorem dX11_type_31 : decode cX11_type 31 = .ok (.getfield 28, 3) := by decide +kernel
theorem dX11_type_34 : decode cX11_type 34 = .ok (.iload_n 1, 1) := by decide +kernel
theorem dX11_type_35 : decode cX11_type 35 = .ok (.invokevirtual 153, 3) := by decide +kernel
theorem dX11_type_38 : decode cX11_type 38 = .ok (.aload_n 0, 1) := by decide +kernel
theorem dX11_type_39 : decode cX11_type 39 = .ok (.getfield 28, 3) := by decide +kernel
theorem dX11_type_42 : decode cX11_type 42 = .ok (.getfield 150, 3) := by decide +kernel
theorem dX11_type_45 : decode cX11_type 45 = .ok (.ireturn, 1) := by decide +kernel
theorem dX11_clearText_0 : decode cX11_clearText 0 = .ok (.aload_n 0, 1) := by decide +kernel
theorem dX11_clearText_1 : decode cX11_clearText 1 = .ok (.getfield 28, 3) := by decide +kernel
theorem dX11_clearText_4 : decode cX11_clearText 4 = .ok (.getfield 150, 3) := by decide +kernel
theorem dX11_clearText_7 : decode cX11_clearText 7 = .ok (.istore_n 1, 1) := by decide +kernel
theorem dX11_clearText_8 : decode cX11_clearText 8 = .ok (.aload_n 0, 1) := by decide +kernel
theorem dX11_clearText_9 : decode cX11_clearText 9 = .ok (.getfield 28, 3) := by decide +kernel
theorem dX11_clearText_12 : decode cX11_clearText 12 = .ok (.iconst 0, 1) := by decide +kernel
theorem dX11_clearText_13 : decode cX11_clearText 13 = .ok (.putfield 150, 3) := by decide +kernel
theorem dX11_clearText_16 : decode cX11_clearText 16 = .ok (.iload_n 1, 1) := by decide +kernel
theorem dX11_clearText_17 : decode cX11_clearText 17 = .ok (.ireturn, 1) := by decide +kernel
theorem dX11_read_0 : decode cX11_read 0 = .ok (.aload_n 0, 1) := by decide +kernel
theorem dX11_read_1 : decode cX11_read 1 = .ok (.iload_n 1, 1) := by decide +kernel
theorem dX11_read_2 : decode cX11_read 2 = .ok (.invokevirtual 156, 3) := by decide +kernel
theorem dX11_read_5 : decode cX11_read 5 = .ok (.aload_n 0, 1) := by decide +kernel
theorem dX11_read_6 : decode cX11_read 6 = .ok (.getfield 45, 3) := by decide +kernel
theorem dX11_read_9 : decode cX11_read 9 = .ok (.aload_n 0, 1) := by decide +kernel
theorem dX11_read_10 : decode cX11_read 10 = .ok (.getfield 28, 3) := by decide +kernel
theorem dX11_read_13 : decode cX11_read 13 = .ok (.invokevirtual 159, 3) := by decide +kernel
theorem dX11_read_16 : decode cX11_read 16 = .ok (.istore_n 2, 1) := by decide +kernel
theorem dX11_read_17 : decode cX11_read 17 = .ok (.iload_n 2, 1) := by decide +kernel
theorem dX11_read_18 : decode cX11_read 18 = .ok (.iconst (-1), 1) := by decide +kernel
theorem dX11_read_19 : decode cX11_read 19 = .ok (.if_icmp .eq 8, 3) := by decide +kernel
theorem dX11_read_22 : decode cX11_read 22 = .ok (.bipush (-10), 2) := by decide +kernel
theorem dX11_read_24 : decode cX11_read 24 = .ok (.iload_n 2, 1) := by decide +kernel
theorem dX11_read_25 : decode cX11_read 25 = .ok (.isub, 1) := by decide +kernel
theorem dX11_read_26 : decode cX11_read 26 = .ok (.ireturn, 1) := by decide +kernel
theorem dX11_read_27 : decode cX11_read 27 = .ok (.aload_n 0, 1) := by decide +kernel
theorem dX11_read_28 : decode cX11_read 28 = .ok (.getfield 19, 3) := by decide +kernel
theorem dX11_read_31 : decode cX11_read 31 = .ok (.aload_n 0, 1) := by decide +kernel
theorem dX11_read_32 : decode cX11_read 32 = .ok (.getfield 12, 3) := by decide +kernel
theorem dX11_read_35 : decode cX11_read 35 = .ok (.invokevirtual 90, 3) := by decide +kernel
theorem dX11_read_38 : decode cX11_read 38 = .ok (.aload_n 0, 1) := by decide +kernel
theorem dX11_read_39 : decode cX11_read 39 = .ok (.getfield 12, 3) := by decide +kernel
theorem dX11_read_42 : decode cX11_read 42 = .ok (.getfield 163, 3) := by decide +kernel
theorem dX11_read_45 : decode cX11_read 45 = .ok (.iload_n 1, 1) := by decide +kernel
theorem dX11_read_46 : decode cX11_read 46 = .ok (.aaload, 1) := by decide +kernel
theorem dX11_read_47 : decode cX11_read 47 = .ok (.aload_n 0, 1) := by decide +kernel
theorem dX11_read_48 : decode cX11_read 48 = .ok (.getfield 45, 3) := by decide +kernel
theorem dX11_read_51 : decode cX11_read 51 = .ok (.getfield 167, 3) := by decide +kernel
theorem dX11_read_54 : decode cX11_read 54 = .ok (.invokevirtual 170, 3) := by decide +kernel
theorem dX11_read_57 : decode cX11_read 57 = .ok (.aload_n 0, 1) := by decide +kernel
theorem dX11_read_58 : decode cX11_read 58 = .ok (.getfield 12, 3) := by decide +kernel
theorem dX11_read_61 : decode cX11_read 61 = .ok (.getfield 163, 3) := by decide +kernel
theorem dX11_read_64 : decode cX11_read 64 = .ok (.iload_n 1, 1) := by decide +kernel
theorem dX11_read_65 : decode cX11_read 65 = .ok (.aaload, 1) := by decide +kernel
theorem dX11_read_66 : decode cX11_read 66 = .ok (.getfield 174, 3) := by decide +kernel
theorem dX11_read_69 : decode cX11_read 69 = .ok (.ireturn, 1) := by decide +kernel
theorem dX11_written_0 : decode cX11_written 0 = .ok (.aload_n 0, 1) := by decide +kernel
theorem dX11_written_1 : decode cX11_written 1 = .ok (.iload_n 1, 1) := by decide +kernel
theorem dX11_written_2 : decode cX11_written 2 = .ok (.invokevirtual 156, 3) := by decide +kernel
theorem dX11_written_5 : decode cX11_written 5 = .ok (.aload_n 0, 1) := by decide +kernel
theorem dX11_written_6 : decode cX11_written 6 = .ok (.iload_n 2, 1) := by decide +kernel
theorem dX11_written_7 : decode cX11_written 7 = .ok (.invokevirtual 126, 3) := by decide +kernel
theorem dX11_written_10 : decode cX11_written 10 = .ok (.aload_n 0, 1) := by decide +kernel
theorem dX11_written_11 : decode cX11_written 11 = .ok (.iload_n 1, 1) := by decide +kernel
theorem dX11_written_12 : decode cX11_written 12 = .ok (.invokevirtual 175, 3) := by decide +kernel
theorem dX11_written_15 : decode cX11_written 15 = .ok (.aload_n 0, 1) := by decide +kernel
theorem dX11_written_16 : decode cX11_written 16 = .ok (.getfield 12, 3) := by decide +kernel
theorem dX11_written_19 : decode cX11_written 19 = .ok (.getfield 163, 3) := by decide +kernel
theorem dX11_written_22 : decode cX11_written 22 = .ok (.iload_n 1, 1) := by decide +kernel
theorem dX11_written_23 : decode cX11_written 23 = .ok (.aaload, 1) := by decide +kernel
theorem dX11_written_24 : decode cX11_written 24 = .ok (.aload_n 0, 1) := by decide +kernel
theorem dX11_written_25 : decode cX11_written 25 = .ok (.getfield 32, 3) := by decide +kernel
theorem dX11_written_28 : decode cX11_written 28 = .ok (.invokevirtual 178, 3) := by decide +kernel
theorem dX11_written_31 : decode cX11_written 31 = .ok (.iload_n 2, 1) := by decide +kernel
theorem dX11_written_32 : decode cX11_written 32 = .ok (.aload_n 0, 1) := by decide +kernel
theorem dX11_written_33 : decode cX11_written 33 = .ok (.getfield 32, 3) := by decide +kernel
theorem dX11_written_36 : decode cX11_written 36 = .ok (.getfield 150, 3) := by decide +kernel
theorem dX11_written_39 : decode cX11_written 39 = .ok (.if_icmp .ge 14, 3) := by decide +kernel
theorem dX11_written_42 : decode cX11_written 42 = .ok (.aload_n 0, 1) := by decide +kernel
theorem dX11_written_43 : decode cX11_written 43 = .ok (.getfield 32, 3) := by decide +kernel
theorem dX11_written_46 : decode cX11_written 46 = .ok (.iload_n 2, 1) := by decide +kernel
theorem dX11_written_47 : decode cX11_written 47 = .ok (.invokevirtual 182, 3) := by decide +kernel
theorem dX11_written_50 : decode cX11_written 50 = .ok (.goto 4, 3) := by decide +kernel
theorem dX11_written_53 : decode cX11_written 53 = .ok (.iconst (-1), 1) := by decide +kernel
theorem dX11_written_54 : decode cX11_written 54 = .ok (.ireturn, 1) := by decide +kernel
theorem dX11_size_0 : decode cX11_size 0 = .ok (.aload_n 0, 1) := by decide +kernel
theorem dX11_size_1 : decode cX11_size 1 = .ok (.iload_n 1, 1) := by decide +kernel
theorem dX11_size_2 : decode cX11_size 2 = .ok (.invokevirtual 156, 3) := by decide +kernel
theorem dX11_size_5 : decode cX11_size 5 = .ok (.aload_n 0, 1) := by decide +kernel
theorem dX11_size_6 : decode cX11_size 6 = .ok (.iload_n 2, 1) := by decide +kernel
theorem dX11_size_7 : decode cX11_size 7 = .ok (.bipush 6, 2) := by decide +kernel
theorem dX11_size_9 : decode cX11_size 9 = .ok (.invokevirtual 69, 3) := by decide +kernel
theorem dX11_size_12 : decode cX11_size 12 = .ok (.aload_n 0, 1) := by decide +kernel
theorem dX11_size_13 : decode cX11_size 13 = .ok (.iload_n 1, 1) := by decide +kernel
theorem dX11_size_14 : decode cX11_size 14 = .ok (.invokevirtual 175, 3) := by decide +kernel
theorem dX11_size_17 : decode cX11_size 17 = .ok (.aload_n 0, 1) := by decide +kernel
theorem dX11_size_18 : decode cX11_size 18 = .ok (.aload_n 0, 1) := by decide +kernel
theorem dX11_size_19 : decode cX11_size 19 = .ok (.getfield 12, 3) := by decide +kernel
theorem dX11_size_22 : decode cX11_size 22 = .ok (.getfield 163, 3) := by decide +kernel
theorem dX11_size_25 : decode cX11_size 25 = .ok (.iload_n 1, 1) := by decide +kernel
theorem dX11_size_26 : decode cX11_size 26 = .ok (.aaload, 1) := by decide +kernel
theorem dX11_size_27 : decode cX11_size 27 = .ok (.iload_n 2, 1) := by decide +kernel
theorem dX11_size_28 : decode cX11_size 28 = .ok (.invokevirtual 185, 3) := by decide +kernel
theorem dX11_size_31 : decode cX11_size 31 = .ok (.ireturn, 1) := by decide +kernel
theorem dX11_unite_0 : decode cX11_unite 0 = .ok (.aload_n 0, 1) := by decide +kernel
theorem dX11_unite_1 : decode cX11_unite 1 = .ok (.iload_n 1, 1) := by decide +kernel
theorem dX11_unite_2 : decode cX11_unite 2 = .ok (.invokevirtual 156, 3) := by decide +kernel
theorem dX11_unite_5 : decode cX11_unite 5 = .ok (.aload_n 0, 1) := by decide +kernel
theorem dX11_unite_6 : decode cX11_unite 6 = .ok (.iload_n 2, 1) := by decide +kernel
theorem dX11_unite_7 : decode cX11_unite 7 = .ok (.invokevirtual 156, 3) := by decide +kernel
theorem dX11_unite_10 : decode cX11_unite 10 = .ok (.aload_n 0, 1) := by decide +kernel
theorem dX11_unite_11 : decode cX11_unite 11 = .ok (.iload_n 3, 1) := by decide +kernel
theorem dX11_unite_12 : decode cX11_unite 12 = .ok (.invokevirtual 156, 3) := by decide +kernel
theorem dX11_unite_15 : decode cX11_unite 15 = .ok (.aload_n 0, 1) := by decide +kernel
theorem dX11_unite_16 : decode cX11_unite 16 = .ok (.iload_n 2, 1) := by decide +kernel
theorem dX11_unite_17 : decode cX11_unite 17 = .ok (.invokevirtual 175, 3) := by decide +kernel
theorem dX11_unite_20 : decode cX11_unite 20 = .ok (.aload_n 0, 1) := by decide +kernel
theorem dX11_unite_21 : decode cX11_unite 21 = .ok (.iload_n 3, 1) := by decide +kernel
theorem dX11_unite_22 : decode cX11_unite 22 = .ok (.invokevirtual 175, 3) := by decide +kernel
theorem dX11_unite_25 : decode cX11_unite 25 = .ok (.aload_n 0, 1) := by decide +kernel
theorem dX11_unite_26 : decode cX11_unite 26 = .ok (.getfield 12, 3) := by decide +kernel
theorem dX11_unite_29 : decode cX11_unite 29 = .ok (.getfield 163, 3) := by decide +kernel
theorem dX11_unite_32 : decode cX11_unite 32 = .ok (.iload_n 2, 1) := by decide +kernel
theorem dX11_unite_33 : decode cX11_unite 33 = .ok (.aaload, 1) := by decide +kernel
theorem dX11_unite_34 : decode cX11_unite 34 = .ok (.getfield 174, 3) := by decide +kernel
theorem dX11_unite_37 : decode cX11_unite 37 = .ok (.aload_n 0, 1) := by decide +kernel
theorem dX11_unite_38 : decode cX11_unite 38 = .ok (.getfield 12, 3) := by decide +kernel
theorem dX11_unite_41 : decode cX11_unite 41 = .ok (.getfield 163, 3) := by decide +kernel
theorem dX11_unite_44 : decode cX11_unite 44 = .ok (.iload_n 3, 1) := by decide +kernel
theorem dX11_unite_45 : decode cX11_unite 45 = .ok (.aaload, 1) := by decide +kernel
theorem dX11_unite_46 : decode cX11_unite 46 = .ok (.getfield 174, 3) := by decide +kernel
theorem dX11_unite_49 : decode cX11_unite 49 = .ok (.iadd, 1) := by decide +kernel
theorem dX11_unite_50 : decode cX11_unite 50 = .ok (.iconst 4, 1) := by decide +kernel
theorem dX11_unite_51 : decode cX11_unite 51 = .ok (.if_icmp .le 13, 3) := by decide +kernel
theorem dX11_unite_54 : decode cX11_unite 54 = .ok (.new 83, 3) := by decide +kernel
theorem dX11_unite_57 : decode cX11_unite 57 = .ok (.dup, 1) := by decide +kernel
theorem dX11_unite_58 : decode cX11_unite 58 = .ok (.ldc 189, 2) := by decide +kernel
theorem dX11_unite_60 : decode cX11_unite 60 = .ok (.invokespecial 87, 3) := by decide +kernel
theorem dX11_unite_63 : decode cX11_unite 63 = .ok (.athrow, 1) := by decide +kernel
theorem dX11_unite_64 : decode cX11_unite 64 = .ok (.aload_n 0, 1) := by decide +kernel
theorem dX11_unite_65 : decode cX11_unite 65 = .ok (.getfield 38, 3) := by decide +kernel
theorem dX11_unite_68 : decode cX11_unite 68 = .ok (.aload_n 0, 1) := by decide +kernel
theorem dX11_unite_69 : decode cX11_unite 69 = .ok (.getfield 12, 3) := by decide +kernel
theorem dX11_unite_72 : decode cX11_unite 72 = .ok (.getfield 163, 3) := by decide +kernel
theorem dX11_unite_75 : decode cX11_unite 75 = .ok (.iload_n 2, 1) := by decide +kernel
theorem dX11_unite_76 : decode cX11_unite 76 = .ok (.aaload, 1) := by decide +kernel
theorem dX11_unite_77 : decode cX11_unite 77 = .ok (.invokevirtual 170, 3) := by decide +kernel
theorem dX11_unite_80 : decode cX11_unite 80 = .ok (.aload_n 0, 1) := by decide +kernel
theorem dX11_unite_81 : decode cX11_unite 81 = .ok (.getfield 38, 3) := by decide +kernel
theorem dX11_unite_84 : decode cX11_unite 84 = .ok (.aload_n 0, 1) := by decide +kernel
theorem dX11_unite_85 : decode cX11_unite 85 = .ok (.getfield 12, 3) := by decide +kernel
theorem dX11_unite_88 : decode cX11_unite 88 = .ok (.getfield 163, 3) := by decide +kernel
theorem dX11_unite_91 : decode cX11_unite 91 = .ok (.iload_n 3, 1) := by decide +kernel
theorem dX11_unite_92 : decode cX11_unite 92 = .ok (.aaload, 1) := by decide +kernel
theorem dX11_unite_93 : decode cX11_unite 93 = .ok (.invokevirtual 191, 3) := by decide +kernel
theorem dX11_unite_96 : decode cX11_unite 96 = .ok (.aload_n 0, 1) := by decide +kernel
theorem dX11_unite_97 : decode cX11_unite 97 = .ok (.getfield 19, 3) := by decide +kernel
theorem dX11_unite_100 : decode cX11_unite 100 = .ok (.aload_n 0, 1) := by decide +kernel
theorem dX11_unite_101 : decode cX11_unite 101 = .ok (.getfield 12, 3) := by decide +kernel
theorem dX11_unite_104 : decode cX11_unite 104 = .ok (.invokevirtual 90, 3) := by decide +kernel
theorem dX11_unite_107 : decode cX11_unite 107 = .ok (.aload_n 0, 1) := by decide +kernel
theorem dX11_unite_108 : decode cX11_unite 108 = .ok (.getfield 12, 3) := by decide +kernel
theorem dX11_unite_111 : decode cX11_unite 111 = .ok (.getfield 163, 3) := by decide +kernel
theorem dX11_unite_114 : decode cX11_unite 114 = .ok (.iload_n 1, 1) := by decide +kernel
theorem dX11_unite_115 : decode cX11_unite 115 = .ok (.aaload, 1) := by decide +kernel
theorem dX11_unite_116 : decode cX11_unite 116 = .ok (.aload_n 0, 1) := by decide +kernel
theorem dX11_unite_117 : decode cX11_unite 117 = .ok (.getfield 38, 3) := by decide +kernel
theorem dX11_unite_120 : decode cX11_unite 120 = .ok (.invokevirtual 170, 3) := by decide +kernel
theorem dX11_unite_123 : decode cX11_unite 123 = .ok (.aload_n 0, 1) := by decide +kernel
theorem dX11_unite_124 : decode cX11_unite 124 = .ok (.getfield 12, 3) := by decide +kernel
theorem dX11_unite_127 : decode cX11_unite 127 = .ok (.getfield 163, 3) := by decide +kernel
theorem dX11_unite_130 : decode cX11_unite 130 = .ok (.iload_n 1, 1) := by decide +kernel
theorem dX11_unite_131 : decode cX11_unite 131 = .ok (.aaload, 1) := by decide +kernel
theorem dX11_unite_132 : decode cX11_unite 132 = .ok (.getfield 174, 3) := by decide +kernel
theorem dX11_unite_135 : decode cX11_unite 135 = .ok (.ireturn, 1) := by decide +kernel
theorem dX11_drop_0 : decode cX11_drop 0 = .ok (.aload_n 0, 1) := by decide +kernel
theorem dX11_drop_1 : decode cX11_drop 1 = .ok (.iload_n 1, 1) := by decide +kernel
theorem dX11_drop_2 : decode cX11_drop 2 = .ok (.invokevirtual 156, 3) := by decide +kernel
theorem dX11_drop_5 : decode cX11_drop 5 = .ok (.aload_n 0, 1) := by decide +kernel
theorem dX11_drop_6 : decode cX11_drop 6 = .ok (.getfield 19, 3) := by decide +kernel
theorem dX11_drop_9 : decode cX11_drop 9 = .ok (.aload_n 0, 1) := by decide +kernel
theorem dX11_drop_10 : decode cX11_drop 10 = .ok (.getfield 12, 3) := by decide +kernel
theorem dX11_drop_13 : decode cX11_drop 13 = .ok (.invokevirtual 90, 3) := by decide +kernel
theorem dX11_drop_16 : decode cX11_drop 16 = .ok (.aload_n 0, 1) := by decide +kernel
theorem dX11_drop_17 : decode cX11_drop 17 = .ok (.getfield 12, 3) := by decide +kernel
theorem dX11_drop_20 : decode cX11_drop 20 = .ok (.getfield 163, 3) := by decide +kernel
theorem dX11_drop_23 : decode cX11_drop 23 = .ok (.iload_n 1, 1) := by decide +kernel
theorem dX11_drop_24 : decode cX11_drop 24 = .ok (.aaload, 1) := by decide +kernel
theorem dX11_drop_25 : decode cX11_drop 25 = .ok (.getfield 174, 3) := by decide +kernel
theorem dX11_drop_28 : decode cX11_drop 28 = .ok (.ifCond .le 7, 3) := by decide +kernel
theorem dX11_drop_31 : decode cX11_drop 31 = .ok (.iconst 1, 1) := by decide +kernel
theorem dX11_drop_32 : decode cX11_drop 32 = .ok (.goto 4, 3) := by decide +kernel
theorem dX11_drop_35 : decode cX11_drop 35 = .ok (.iconst 0, 1) := by decide +kernel
theorem dX11_drop_36 : decode cX11_drop 36 = .ok (.istore_n 2, 1) := by decide +kernel
theorem dX11_drop_37 : decode cX11_drop 37 = .ok (.aload_n 0, 1) := by decide +kernel
theorem dX11_drop_38 : decode cX11_drop 38 = .ok (.getfield 12, 3) := by decide +kernel
theorem dX11_drop_41 : decode cX11_drop 41 = .ok (.getfield 163, 3) := by decide +kernel
theorem dX11_drop_44 : decode cX11_drop 44 = .ok (.iload_n 1, 1) := by decide +kernel
theorem dX11_drop_45 : decode cX11_drop 45 = .ok (.aaload, 1) := by decide +kernel
theorem dX11_drop_46 : decode cX11_drop 46 = .ok (.iconst 0, 1) := by decide +kernel
theorem dX11_drop_47 : decode cX11_drop 47 = .ok (.putfield 174, 3) := by decide +kernel
theorem dX11_drop_50 : decode cX11_drop 50 = .ok (.iload_n 2, 1) := by decide +kernel
theorem dX11_drop_51 : decode cX11_drop 51 = .ok (.ireturn, 1) := by decide +kernel
theorem dX11_count_0 : decode cX11_count 0 = .ok (.aload_n 0, 1) := by decide +kernel
theorem dX11_count_1 : decode cX11_count 1 = .ok (.iload_n 1, 1) := by decide +kernel
theorem dX11_count_2 : decode cX11_count 2 = .ok (.invokevirtual 156, 3) := by decide +kernel
theorem dX11_count_5 : decode cX11_count 5 = .ok (.aload_n 0, 1) := by decide +kernel
theorem dX11_count_6 : decode cX11_count 6 = .ok (.iload_n 2, 1) := by decide +kernel
theorem dX11_count_7 : decode cX11_count 7 = .ok (.invokevirtual 66, 3) := by decide +kernel
theorem dX11_count_10 : decode cX11_count 10 = .ok (.aload_n 0, 1) := by decide +kernel
theorem dX11_count_11 : decode cX11_count 11 = .ok (.iload_n 1, 1) := by decide +kernel
theorem dX11_count_12 : decode cX11_count 12 = .ok (.invokevirtual 175, 3) := by decide +kernel
theorem dX11_count_15 : decode cX11_count 15 = .ok (.aload_n 0, 1) := by decide +kernel
theorem dX11_count_16 : decode cX11_count 16 = .ok (.iload_n 1, 1) := by decide +kernel
theorem dX11_count_17 : decode cX11_count 17 = .ok (.iload_n 2, 1) := by decide +kernel
theorem dX11_count_18 : decode cX11_count 18 = .ok (.invokevirtual 193, 3) := by decide +kernel
theorem dX11_count_21 : decode cX11_count 21 = .ok (.invokestatic 133, 3) := by decide +kernel
theorem dX11_count_24 : decode cX11_count 24 = .ok (.ireturn, 1) := by decide +kernel
theorem dX11_selected_0 : decode cX11_selected 0 = .ok (.aload_n 0, 1) := by decide +kernel
theorem dX11_selected_1 : decode cX11_selected 1 = .ok (.iload_n 1, 1) := by decide +kernel
theorem dX11_selected_2 : decode cX11_selected 2 = .ok (.invokevirtual 156, 3) := by decide +kernel
theorem dX11_selected_5 : decode cX11_selected 5 = .ok (.aload_n 0, 1) := by decide +kernel
theorem dX11_selected_6 : decode cX11_selected 6 = .ok (.iload_n 2, 1) := by decide +kernel
theorem dX11_selected_7 : decode cX11_selected 7 = .ok (.invokevirtual 66, 3) := by decide +kernel
theorem dX11_selected_10 : decode cX11_selected 10 = .ok (.aload_n 0, 1) := by decide +kernel
theorem dX11_selected_11 : decode cX11_selected 11 = .ok (.iload_n 3, 1) := by decide +kernel
theorem dX11_selected_12 : decode cX11_selected 12 = .ok (.invokevirtual 126, 3) := by decide +kernel
theorem dX11_selected_15 : decode cX11_selected 15 = .ok (.aload_n 0, 1) := by decide +kernel
theorem dX11_selected_16 : decode cX11_selected 16 = .ok (.iload_n 1, 1) := by decide +kernel
theorem dX11_selected_17 : decode cX11_selected 17 = .ok (.invokevirtual 175, 3) := by decide +kernel
theorem dX11_selected_20 : decode cX11_selected 20 = .ok (.aload_n 0, 1) := by decide +kernel
theorem dX11_selected_21 : decode cX11_selected 21 = .ok (.iload_n 1, 1) := by decide +kernel
theorem dX11_selected_22 : decode cX11_selected 22 = .ok (.iload_n 2, 1) := by decide +kernel
theorem dX11_selected_23 : decode cX11_selected 23 = .ok (.invokevirtual 193, 3) := by decide +kernel
theorem dX11_selected_26 : decode cX11_selected 26 = .ok (.lstore 4, 2) := by decide +kernel
theorem dX11_selected_28 : decode cX11_selected 28 = .ok (.iload_n 3, 1) := by decide +kernel
theorem dX11_selected_29 : decode cX11_selected 29 = .ok (.lload 4, 2) := by decide +kernel
theorem dX11_selected_31 : decode cX11_selected 31 = .ok (.invokestatic 133, 3) := by decide +kernel
theorem dX11_selected_34 : decode cX11_selected 34 = .ok (.if_icmp .ge 15, 3) := by decide +kernel
theorem dX11_selected_37 : decode cX11_selected 37 = .ok (.lload 4, 2) := by decide +kernel
theorem dX11_selected_39 : decode cX11_selected 39 = .ok (.iload_n 3, 1) := by decide +kernel
theorem dX11_selected_40 : decode cX11_selected 40 = .ok (.invokestatic 143, 3) := by decide +kernel
theorem dX11_selected_43 : decode cX11_selected 43 = .ok (.invokestatic 147, 3) := by decide +kernel
theorem dX11_selected_46 : decode cX11_selected 46 = .ok (.goto 4, 3) := by decide +kernel
theorem dX11_selected_49 : decode cX11_selected 49 = .ok (.iconst (-1), 1) := by decide +kernel
theorem dX11_selected_50 : decode cX11_selected 50 = .ok (.ireturn, 1) := by decide +kernel
theorem dX11_sum_0 : decode cX11_sum 0 = .ok (.aload_n 0, 1) := by decide +kernel
theorem dX11_sum_1 : decode cX11_sum 1 = .ok (.iload_n 1, 1) := by decide +kernel
theorem dX11_sum_2 : decode cX11_sum 2 = .ok (.invokevirtual 156, 3) := by decide +kernel
theorem dX11_sum_5 : decode cX11_sum 5 = .ok (.aload_n 0, 1) := by decide +kernel
theorem dX11_sum_6 : decode cX11_sum 6 = .ok (.iload_n 2, 1) := by decide +kernel
theorem dX11_sum_7 : decode cX11_sum 7 = .ok (.invokevirtual 66, 3) := by decide +kernel
theorem dX11_sum_10 : decode cX11_sum 10 = .ok (.aload_n 0, 1) := by decide +kernel
theorem dX11_sum_11 : decode cX11_sum 11 = .ok (.iload_n 1, 1) := by decide +kernel
theorem dX11_sum_12 : decode cX11_sum 12 = .ok (.invokevirtual 175, 3) := by decide +kernel
theorem dX11_sum_15 : decode cX11_sum 15 = .ok (.aload_n 0, 1) := by decide +kernel
theorem dX11_sum_16 : decode cX11_sum 16 = .ok (.getfield 12, 3) := by decide +kernel
theorem dX11_sum_19 : decode cX11_sum 19 = .ok (.getfield 73, 3) := by decide +kernel
theorem dX11_sum_22 : decode cX11_sum 22 = .ok (.aload_n 0, 1) := by decide +kernel
theorem dX11_sum_23 : decode cX11_sum 23 = .ok (.iload_n 1, 1) := by decide +kernel
theorem dX11_sum_24 : decode cX11_sum 24 = .ok (.iload_n 2, 1) := by decide +kernel
theorem dX11_sum_25 : decode cX11_sum 25 = .ok (.invokevirtual 193, 3) := by decide +kernel
theorem dX11_sum_28 : decode cX11_sum 28 = .ok (.invokevirtual 196, 3) := by decide +kernel
theorem dX11_sum_31 : decode cX11_sum 31 = .ok (.ireturn, 1) := by decide +kernel
theorem dX11_given_0 : decode cX11_given 0 = .ok (.aload_n 0, 1) := by decide +kernel
theorem dX11_given_1 : decode cX11_given 1 = .ok (.iload_n 1, 1) := by decide +kernel
theorem dX11_given_2 : decode cX11_given 2 = .ok (.invokevirtual 156, 3) := by decide +kernel
theorem dX11_given_5 : decode cX11_given 5 = .ok (.aload_n 0, 1) := by decide +kernel
theorem dX11_given_6 : decode cX11_given 6 = .ok (.iload 4, 2) := by decide +kernel
theorem dX11_given_8 : decode cX11_given 8 = .ok (.invokevirtual 66, 3) := by decide +kernel
theorem dX11_given_11 : decode cX11_given 11 = .ok (.aload_n 0, 1) := by decide +kernel
theorem dX11_given_12 : decode cX11_given 12 = .ok (.iload_n 1, 1) := by decide +kernel
theorem dX11_given_13 : decode cX11_given 13 = .ok (.invokevirtual 175, 3) := by decide +kernel
theorem dX11_given_16 : decode cX11_given 16 = .ok (.aload_n 0, 1) := by decide +kernel
theorem dX11_given_17 : decode cX11_given 17 = .ok (.iload_n 2, 1) := by decide +kernel
theorem dX11_given_18 : decode cX11_given 18 = .ok (.aload_n 0, 1) := by decide +kernel
theorem dX11_given_19 : decode cX11_given 19 = .ok (.getfield 12, 3) := by decide +kernel
theorem dX11_given_22 : decode cX11_given 22 = .ok (.getfield 163, 3) := by decide +kernel
theorem dX11_given_25 : decode cX11_given 25 = .ok (.iload_n 1, 1) := by decide +kernel
theorem dX11_given_26 : decode cX11_given 26 = .ok (.aaload, 1) := by decide +kernel
theorem dX11_given_27 : decode cX11_given 27 = .ok (.getfield 174, 3) := by decide +kernel
theorem dX11_given_30 : decode cX11_given 30 = .ok (.invokevirtual 69, 3) := by decide +kernel
theorem dX11_given_33 : decode cX11_given 33 = .ok (.aload_n 0, 1) := by decide +kernel
theorem dX11_given_34 : decode cX11_given 34 = .ok (.iload_n 3, 1) := by decide +kernel
theorem dX11_given_35 : decode cX11_given 35 = .ok (.aload_n 0, 1) := by decide +kernel
theorem dX11_given_36 : decode cX11_given 36 = .ok (.getfield 12, 3) := by decide +kernel
theorem dX11_given_39 : decode cX11_given 39 = .ok (.getfield 163, 3) := by decide +kernel
theorem dX11_given_42 : decode cX11_given 42 = .ok (.iload_n 1, 1) := by decide +kernel
theorem dX11_given_43 : decode cX11_given 43 = .ok (.aaload, 1) := by decide +kernel
theorem dX11_given_44 : decode cX11_given 44 = .ok (.getfield 199, 3) := by decide +kernel
theorem dX11_given_47 : decode cX11_given 47 = .ok (.iload_n 2, 1) := by decide +kernel
theorem dX11_given_48 : decode cX11_given 48 = .ok (.aaload, 1) := by decide +kernel
theorem dX11_given_49 : decode cX11_given 49 = .ok (.getfield 203, 3) := by decide +kernel
theorem dX11_given_52 : decode cX11_given 52 = .ok (.invokevirtual 69, 3) := by decide +kernel
theorem dX11_given_55 : decode cX11_given 55 = .ok (.aload_n 0, 1) := by decide +kernel
theorem dX11_given_56 : decode cX11_given 56 = .ok (.getfield 59, 3) := by decide +kernel
theorem dX11_given_59 : decode cX11_given 59 = .ok (.aload_n 0, 1) := by decide +kernel
theorem dX11_given_60 : decode cX11_given 60 = .ok (.getfield 12, 3) := by decide +kernel
theorem dX11_given_63 : decode cX11_given 63 = .ok (.getfield 73, 3) := by decide +kernel
theorem dX11_given_66 : decode cX11_given 66 = .ok (.aload_n 0, 1) := by decide +kernel
theorem dX11_given_67 : decode cX11_given 67 = .ok (.getfield 12, 3) := by decide +kernel
theorem dX11_given_70 : decode cX11_given 70 = .ok (.getfield 163, 3) := by decide +kernel
theorem dX11_given_73 : decode cX11_given 73 = .ok (.iload_n 1, 1) := by decide +kernel
theorem dX11_given_74 : decode cX11_given 74 = .ok (.aaload, 1) := by decide +kernel
theorem dX11_given_75 : decode cX11_given 75 = .ok (.invokevirtual 206, 3) := by decide +kernel
theorem dX11_given_78 : decode cX11_given 78 = .ok (.aload_n 0, 1) := by decide +kernel
theorem dX11_given_79 : decode cX11_given 79 = .ok (.getfield 59, 3) := by decide +kernel
theorem dX11_given_82 : decode cX11_given 82 = .ok (.iload_n 2, 1) := by decide +kernel
theorem dX11_given_83 : decode cX11_given 83 = .ok (.iload_n 3, 1) := by decide +kernel
theorem dX11_given_84 : decode cX11_given 84 = .ok (.iload 4, 2) := by decide +kernel
theorem dX11_given_86 : decode cX11_given 86 = .ok (.invokevirtual 210, 3) := by decide +kernel
theorem dX11_given_89 : decode cX11_given 89 = .ok (.invokestatic 133, 3) := by decide +kernel
theorem dX11_given_92 : decode cX11_given 92 = .ok (.ireturn, 1) := by decide +kernel
theorem dX11_differences_0 : decode cX11_differences 0 = .ok (.aload_n 0, 1) := by decide +kernel
theorem dX11_differences_1 : decode cX11_differences 1 = .ok (.iload_n 1, 1) := by decide +kernel
theorem dX11_differences_2 : decode cX11_differences 2 = .ok (.invokevirtual 156, 3) := by decide +kernel
theorem dX11_differences_5 : decode cX11_differences 5 = .ok (.aload_n 0, 1) := by decide +kernel
theorem dX11_differences_6 : decode cX11_differences 6 = .ok (.iload_n 2, 1) := by decide +kernel
theorem dX11_differences_7 : decode cX11_differences 7 = .ok (.invokevirtual 156, 3) := by decide +kernel
theorem dX11_differences_10 : decode cX11_differences 10 = .ok (.aload_n 0, 1) := by decide +kernel
theorem dX11_differences_11 : decode cX11_differences 11 = .ok (.iload_n 1, 1) := by decide +kernel
theorem dX11_differences_12 : decode cX11_differences 12 = .ok (.invokevirtual 175, 3) := by decide +kernel
theorem dX11_differences_15 : decode cX11_differences 15 = .ok (.aload_n 0, 1) := by decide +kernel
theorem dX11_differences_16 : decode cX11_differences 16 = .ok (.iload_n 2, 1) := by decide +kernel
theorem dX11_differences_17 : decode cX11_differences 17 = .ok (.invokevirtual 175, 3) := by decide +kernel
theorem dX11_differences_20 : decode cX11_differences 20 = .ok (.aload_n 0, 1) := by decide +kernel
theorem dX11_differences_21 : decode cX11_differences 21 = .ok (.getfield 59, 3) := by decide +kernel
theorem dX11_differences_24 : decode cX11_differences 24 = .ok (.aload_n 0, 1) := by decide +kernel
theorem dX11_differences_25 : decode cX11_differences 25 = .ok (.getfield 12, 3) := by decide +kernel
theorem dX11_differences_28 : decode cX11_differences 28 = .ok (.getfield 73, 3) := by decide +kernel
theorem dX11_differences_31 : decode cX11_differences 31 = .ok (.aload_n 0, 1) := by decide +kernel
theorem dX11_differences_32 : decode cX11_differences 32 = .ok (.getfield 12, 3) := by decide +kernel
theorem dX11_differences_35 : decode cX11_differences 35 = .ok (.getfield 163, 3) := by decide +kernel
theorem dX11_differences_38 : decode cX11_differences 38 = .ok (.iload_n 1, 1) := by decide +kernel
theorem dX11_differences_39 : decode cX11_differences 39 = .ok (.aaload, 1) := by decide +kernel
theorem dX11_differences_40 : decode cX11_differences 40 = .ok (.invokevirtual 206, 3) := by decide +kernel
theorem dX11_differences_43 : decode cX11_differences 43 = .ok (.aload_n 0, 1) := by decide +kernel
theorem dX11_differences_44 : decode cX11_differences 44 = .ok (.getfield 63, 3) := by decide +kernel
theorem dX11_differences_47 : decode cX11_differences 47 = .ok (.aload_n 0, 1) := by decide +kernel
theorem dX11_differences_48 : decode cX11_differences 48 = .ok (.getfield 12, 3) := by decide +kernel
theorem dX11_differences_51 : decode cX11_differences 51 = .ok (.getfield 73, 3) := by decide +kernel
theorem dX11_differences_54 : decode cX11_differences 54 = .ok (.aload_n 0, 1) := by decide +kernel
theorem dX11_differences_55 : decode cX11_differences 55 = .ok (.getfield 12, 3) := by decide +kernel
theorem dX11_differences_58 : decode cX11_differences 58 = .ok (.getfield 163, 3) := by decide +kernel
theorem dX11_differences_61 : decode cX11_differences 61 = .ok (.iload_n 2, 1) := by decide +kernel
theorem dX11_differences_62 : decode cX11_differences 62 = .ok (.aaload, 1) := by decide +kernel
theorem dX11_differences_63 : decode cX11_differences 63 = .ok (.invokevirtual 206, 3) := by decide +kernel
theorem dX11_differences_66 : decode cX11_differences 66 = .ok (.iconst 0, 1) := by decide +kernel
theorem dX11_differences_67 : decode cX11_differences 67 = .ok (.istore_n 3, 1) := by decide +kernel
theorem dX11_differences_68 : decode cX11_differences 68 = .ok (.iconst 0, 1) := by decide +kernel
theorem dX11_differences_69 : decode cX11_differences 69 = .ok (.istore 4, 2) := by decide +kernel
theorem dX11_differences_71 : decode cX11_differences 71 = .ok (.iload 4, 2) := by decide +kernel
theorem dX11_differences_73 : decode cX11_differences 73 = .ok (.aload_n 0, 1) := by decide +kernel
theorem dX11_differences_74 : decode cX11_differences 74 = .ok (.getfield 12, 3) := by decide +kernel
theorem dX11_differences_77 : decode cX11_differences 77 = .ok (.getfield 73, 3) := by decide +kernel
theorem dX11_differences_80 : decode cX11_differences 80 = .ok (.getfield 77, 3) := by decide +kernel
theorem dX11_differences_83 : decode cX11_differences 83 = .ok (.if_icmp .ge 52, 3) := by decide +kernel
theorem dX11_differences_86 : decode cX11_differences 86 = .ok (.aload_n 0, 1) := by decide +kernel
theorem dX11_differences_87 : decode cX11_differences 87 = .ok (.getfield 59, 3) := by decide +kernel
theorem dX11_differences_90 : decode cX11_differences 90 = .ok (.aload_n 0, 1) := by decide +kernel
theorem dX11_differences_91 : decode cX11_differences 91 = .ok (.getfield 12, 3) := by decide +kernel
theorem dX11_differences_94 : decode cX11_differences 94 = .ok (.getfield 163, 3) := by decide +kernel
theorem dX11_differences_97 : decode cX11_differences 97 = .ok (.iload_n 1, 1) := by decide +kernel
theorem dX11_differences_98 : decode cX11_differences 98 = .ok (.aaload, 1) := by decide +kernel
theorem dX11_differences_99 : decode cX11_differences 99 = .ok (.iload 4, 2) := by decide +kernel
theorem dX11_differences_101 : decode cX11_differences 101 = .ok (.invokevirtual 214, 3) := by decide +kernel
theorem dX11_differences_104 : decode cX11_differences 104 = .ok (.aload_n 0, 1) := by decide +kernel
theorem dX11_differences_105 : decode cX11_differences 105 = .ok (.getfield 63, 3) := by decide +kernel
theorem dX11_differences_108 : decode cX11_differences 108 = .ok (.aload_n 0, 1) := by decide +kernel
theorem dX11_differences_109 : decode cX11_differences 109 = .ok (.getfield 12, 3) := by decide +kernel
theorem dX11_differences_112 : decode cX11_differences 112 = .ok (.getfield 163, 3) := by decide +kernel
theorem dX11_differences_115 : decode cX11_differences 115 = .ok (.iload_n 2, 1) := by decide +kernel
theorem dX11_differences_116 : decode cX11_differences 116 = .ok (.aaload, 1) := by decide +kernel
theorem dX11_differences_117 : decode cX11_differences 117 = .ok (.iload 4, 2) := by decide +kernel
theorem dX11_differences_119 : decode cX11_differences 119 = .ok (.invokevirtual 214, 3) := by decide +kernel
theorem dX11_differences_122 : decode cX11_differences 122 = .ok (.lcmp, 1) := by decide +kernel
theorem dX11_differences_123 : decode cX11_differences 123 = .ok (.ifCond .eq 6, 3) := by decide +kernel
theorem dX11_differences_126 : decode cX11_differences 126 = .ok (.iinc 3 1, 3) := by decide +kernel
theorem dX11_differences_129 : decode cX11_differences 129 = .ok (.iinc 4 1, 3) := by decide +kernel
theorem dX11_differences_132 : decode cX11_differences 132 = .ok (.goto (-61), 3) := by decide +kernel
theorem dX11_differences_135 : decode cX11_differences 135 = .ok (.iload_n 3, 1) := by decide +kernel
theorem dX11_differences_136 : decode cX11_differences 136 = .ok (.ireturn, 1) := by decide +kernel
theorem dX11_rewrite_0 : decode cX11_rewrite 0 = .ok (.aload_n 0, 1) := by decide +kernel
theorem dX11_rewrite_1 : decode cX11_rewrite 1 = .ok (.iload_n 1, 1) := by decide +kernel
theorem dX11_rewrite_2 : decode cX11_rewrite 2 = .ok (.invokevirtual 156, 3) := by decide +kernel
theorem dX11_rewrite_5 : decode cX11_rewrite 5 = .ok (.aload_n 0, 1) := by decide +kernel
theorem dX11_rewrite_6 : decode cX11_rewrite 6 = .ok (.iload_n 1, 1) := by decide +kernel
theorem dX11_rewrite_7 : decode cX11_rewrite 7 = .ok (.invokevirtual 175, 3) := by decide +kernel
theorem dX11_rewrite_10 : decode cX11_rewrite 10 = .ok (.aload_n 0, 1) := by decide +kernel
theorem dX11_rewrite_11 : decode cX11_rewrite 11 = .ok (.getfield 19, 3) := by decide +kernel
theorem dX11_rewrite_14 : decode cX11_rewrite 14 = .ok (.aload_n 0, 1) := by decide +kernel
theorem dX11_rewrite_15 : decode cX11_rewrite 15 = .ok (.getfield 12, 3) := by decide +kernel
theorem dX11_rewrite_18 : decode cX11_rewrite 18 = .ok (.invokevirtual 90, 3) := by decide +kernel
theorem dX11_rewrite_21 : decode cX11_rewrite 21 = .ok (.aload_n 0, 1) := by decide +kernel
theorem dX11_rewrite_22 : decode cX11_rewrite 22 = .ok (.getfield 52, 3) := by decide +kernel
theorem dX11_rewrite_25 : decode cX11_rewrite 25 = .ok (.aload_n 0, 1) := by decide +kernel
theorem dX11_rewrite_26 : decode cX11_rewrite 26 = .ok (.getfield 12, 3) := by decide +kernel
theorem dX11_rewrite_29 : decode cX11_rewrite 29 = .ok (.getfield 163, 3) := by decide +kernel
theorem dX11_rewrite_32 : decode cX11_rewrite 32 = .ok (.iload_n 1, 1) := by decide +kernel
theorem dX11_rewrite_33 : decode cX11_rewrite 33 = .ok (.aaload, 1) := by decide +kernel
theorem dX11_rewrite_34 : decode cX11_rewrite 34 = .ok (.invokevirtual 218, 3) := by decide +kernel
theorem dX11_rewrite_37 : decode cX11_rewrite 37 = .ok (.aload_n 0, 1) := by decide +kernel
theorem dX11_rewrite_38 : decode cX11_rewrite 38 = .ok (.getfield 52, 3) := by decide +kernel
theorem dX11_rewrite_41 : decode cX11_rewrite 41 = .ok (.invokevirtual 221, 3) := by decide +kernel
theorem dX11_rewrite_44 : decode cX11_rewrite 44 = .ok (.ireturn, 1) := by decide +kernel
theorem dX11_uses_0 : decode cX11_uses 0 = .ok (.aload_n 0, 1) := by decide +kernel
theorem dX11_uses_1 : decode cX11_uses 1 = .ok (.iload_n 1, 1) := by decide +kernel
theorem dX11_uses_2 : decode cX11_uses 2 = .ok (.invokevirtual 156, 3) := by decide +kernel
theorem dX11_uses_5 : decode cX11_uses 5 = .ok (.iload_n 2, 1) := by decide +kernel
theorem dX11_uses_6 : decode cX11_uses 6 = .ok (.iconst 1, 1) := by decide +kernel
theorem dX11_uses_7 : decode cX11_uses 7 = .ok (.if_icmp .lt 9, 3) := by decide +kernel
theorem dX11_uses_10 : decode cX11_uses 10 = .ok (.iload_n 2, 1) := by decide +kernel
theorem dX11_uses_11 : decode cX11_uses 11 = .ok (.bipush 9, 2) := by decide +kernel
theorem dX11_uses_13 : decode cX11_uses 13 = .ok (.if_icmp .le 13, 3) := by decide +kernel
theorem dX11_uses_16 : decode cX11_uses 16 = .ok (.new 225, 3) := by decide +kernel
theorem dX11_uses_19 : decode cX11_uses 19 = .ok (.dup, 1) := by decide +kernel
theorem dX11_uses_20 : decode cX11_uses 20 = .ok (.ldc 227, 2) := by decide +kernel
theorem dX11_uses_22 : decode cX11_uses 22 = .ok (.invokespecial 229, 3) := by decide +kernel
theorem dX11_uses_25 : decode cX11_uses 25 = .ok (.athrow, 1) := by decide +kernel
theorem dX11_uses_26 : decode cX11_uses 26 = .ok (.aload_n 0, 1) := by decide +kernel
theorem dX11_uses_27 : decode cX11_uses 27 = .ok (.iload_n 1, 1) := by decide +kernel
theorem dX11_uses_28 : decode cX11_uses 28 = .ok (.invokevirtual 175, 3) := by decide +kernel
theorem dX11_uses_31 : decode cX11_uses 31 = .ok (.aload_n 0, 1) := by decide +kernel
theorem dX11_uses_32 : decode cX11_uses 32 = .ok (.getfield 38, 3) := by decide +kernel
theorem dX11_uses_35 : decode cX11_uses 35 = .ok (.aload_n 0, 1) := by decide +kernel
theorem dX11_uses_36 : decode cX11_uses 36 = .ok (.getfield 12, 3) := by decide +kernel
theorem dX11_uses_39 : decode cX11_uses 39 = .ok (.getfield 163, 3) := by decide +kernel
theorem dX11_uses_42 : decode cX11_uses 42 = .ok (.iload_n 1, 1) := by decide +kernel
theorem dX11_uses_43 : decode cX11_uses 43 = .ok (.aaload, 1) := by decide +kernel
theorem dX11_uses_44 : decode cX11_uses 44 = .ok (.invokevirtual 170, 3) := by decide +kernel
theorem dX11_uses_47 : decode cX11_uses 47 = .ok (.aload_n 0, 1) := by decide +kernel
theorem dX11_uses_48 : decode cX11_uses 48 = .ok (.getfield 52, 3) := by decide +kernel
theorem dX11_uses_51 : decode cX11_uses 51 = .ok (.aload_n 0, 1) := by decide +kernel
theorem dX11_uses_52 : decode cX11_uses 52 = .ok (.getfield 38, 3) := by decide +kernel
theorem dX11_uses_55 : decode cX11_uses 55 = .ok (.invokevirtual 218, 3) := by decide +kernel
theorem dX11_uses_58 : decode cX11_uses 58 = .ok (.aload_n 0, 1) := by decide +kernel
theorem dX11_uses_59 : decode cX11_uses 59 = .ok (.getfield 52, 3) := by decide +kernel
theorem dX11_uses_62 : decode cX11_uses 62 = .ok (.getfield 230, 3) := by decide +kernel
theorem dX11_uses_65 : decode cX11_uses 65 = .ok (.iload_n 2, 1) := by decide +kernel
theorem dX11_uses_66 : decode cX11_uses 66 = .ok (.iaload, 1) := by decide +kernel
theorem dX11_uses_67 : decode cX11_uses 67 = .ok (.ireturn, 1) := by decide +kernel
theorem dX11_undo_0 : decode cX11_undo 0 = .ok (.aload_n 0, 1) := by decide +kernel
theorem dX11_undo_1 : decode cX11_undo 1 = .ok (.getfield 19, 3) := by decide +kernel
theorem dX11_undo_4 : decode cX11_undo 4 = .ok (.getfield 233, 3) := by decide +kernel
theorem dX11_undo_7 : decode cX11_undo 7 = .ok (.ifCond .ne 13, 3) := by decide +kernel
theorem dX11_undo_10 : decode cX11_undo 10 = .ok (.new 83, 3) := by decide +kernel
theorem dX11_undo_13 : decode cX11_undo 13 = .ok (.dup, 1) := by decide +kernel
theorem dX11_undo_14 : decode cX11_undo 14 = .ok (.ldc 234, 2) := by decide +kernel
theorem dX11_undo_16 : decode cX11_undo 16 = .ok (.invokespecial 87, 3) := by decide +kernel
theorem dX11_undo_19 : decode cX11_undo 19 = .ok (.athrow, 1) := by decide +kernel
theorem dX11_undo_20 : decode cX11_undo 20 = .ok (.aload_n 0, 1) := by decide +kernel
theorem dX11_undo_21 : decode cX11_undo 21 = .ok (.getfield 19, 3) := by decide +kernel
theorem dX11_undo_24 : decode cX11_undo 24 = .ok (.aload_n 0, 1) := by decide +kernel
theorem dX11_undo_25 : decode cX11_undo 25 = .ok (.getfield 12, 3) := by decide +kernel
theorem dX11_undo_28 : decode cX11_undo 28 = .ok (.invokevirtual 236, 3) := by decide +kernel
theorem dX11_undo_31 : decode cX11_undo 31 = .ok (.aload_n 0, 1) := by decide +kernel
theorem dX11_undo_32 : decode cX11_undo 32 = .ok (.getfield 19, 3) := by decide +kernel
theorem dX11_undo_35 : decode cX11_undo 35 = .ok (.getfield 233, 3) := by decide +kernel
theorem dX11_undo_38 : decode cX11_undo 38 = .ok (.ireturn, 1) := by decide +kernel
theorem dX11_digest_0 : decode cX11_digest 0 = .ok (.ldc2_w 239, 3) := by decide +kernel
theorem dX11_digest_3 : decode cX11_digest 3 = .ok (.lstore_n 1, 1) := by decide +kernel
theorem dX11_digest_4 : decode cX11_digest 4 = .ok (.ldc2_w 241, 3) := by decide +kernel
theorem dX11_digest_7 : decode cX11_digest 7 = .ok (.lload_n 1, 1) := by decide +kernel
theorem dX11_digest_8 : decode cX11_digest 8 = .ok (.lmul, 1) := by decide +kernel
theorem dX11_digest_9 : decode cX11_digest 9 = .ok (.aload_n 0, 1) := by decide +kernel
theorem dX11_digest_10 : decode cX11_digest 10 = .ok (.getfield 19, 3) := by decide +kernel
theorem dX11_digest_13 : decode cX11_digest 13 = .ok (.getfield 233, 3) := by decide +kernel
theorem dX11_digest_16 : decode cX11_digest 16 = .ok (.i2l, 1) := by decide +kernel
theorem dX11_digest_17 : decode cX11_digest 17 = .ok (.ladd, 1) := by decide +kernel
theorem dX11_digest_18 : decode cX11_digest 18 = .ok (.lstore_n 1, 1) := by decide +kernel
theorem dX11_digest_19 : decode cX11_digest 19 = .ok (.ldc2_w 241, 3) := by decide +kernel
theorem dX11_digest_22 : decode cX11_digest 22 = .ok (.lload_n 1, 1) := by decide +kernel
theorem dX11_digest_23 : decode cX11_digest 23 = .ok (.lmul, 1) := by decide +kernel
theorem dX11_digest_24 : decode cX11_digest 24 = .ok (.aload_n 0, 1) := by decide +kernel
theorem dX11_digest_25 : decode cX11_digest 25 = .ok (.getfield 28, 3) := by decide +kernel
theorem dX11_digest_28 : decode cX11_digest 28 = .ok (.getfield 150, 3) := by decide +kernel
theorem dX11_digest_31 : decode cX11_digest 31 = .ok (.i2l, 1) := by decide +kernel
theorem dX11_digest_32 : decode cX11_digest 32 = .ok (.ladd, 1) := by decide +kernel
theorem dX11_digest_33 : decode cX11_digest 33 = .ok (.lstore_n 1, 1) := by decide +kernel
theorem dX11_digest_34 : decode cX11_digest 34 = .ok (.aload_n 0, 1) := by decide +kernel
theorem dX11_digest_35 : decode cX11_digest 35 = .ok (.lload_n 1, 1) := by decide +kernel
theorem dX11_digest_36 : decode cX11_digest 36 = .ok (.invokevirtual 243, 3) := by decide +kernel
theorem dX11_digest_39 : decode cX11_digest 39 = .ok (.lstore_n 1, 1) := by decide +kernel
theorem dX11_digest_40 : decode cX11_digest 40 = .ok (.iconst 0, 1) := by decide +kernel
theorem dX11_digest_41 : decode cX11_digest 41 = .ok (.istore_n 3, 1) := by decide +kernel
theorem dX11_digest_42 : decode cX11_digest 42 = .ok (.iload_n 3, 1) := by decide +kernel
theorem dX11_digest_43 : decode cX11_digest 43 = .ok (.iconst 4, 1) := by decide +kernel
theorem dX11_digest_44 : decode cX11_digest 44 = .ok (.if_icmp .ge 97, 3) := by decide +kernel
theorem dX11_digest_47 : decode cX11_digest 47 = .ok (.ldc2_w 241, 3) := by decide +kernel
theorem dX11_digest_50 : decode cX11_digest 50 = .ok (.lload_n 1, 1) := by decide +kernel
theorem dX11_digest_51 : decode cX11_digest 51 = .ok (.lmul, 1) := by decide +kernel
theorem dX11_digest_52 : decode cX11_digest 52 = .ok (.aload_n 0, 1) := by decide +kernel
theorem dX11_digest_53 : decode cX11_digest 53 = .ok (.getfield 12, 3) := by decide +kernel
theorem dX11_digest_56 : decode cX11_digest 56 = .ok (.getfield 163, 3) := by decide +kernel
theorem dX11_digest_59 : decode cX11_digest 59 = .ok (.iload_n 3, 1) := by decide +kernel
theorem dX11_digest_60 : decode cX11_digest 60 = .ok (.aaload, 1) := by decide +kernel
theorem dX11_digest_61 : decode cX11_digest 61 = .ok (.getfield 174, 3) := by decide +kernel
theorem dX11_digest_64 : decode cX11_digest 64 = .ok (.ifCond .le 7, 3) := by decide +kernel
theorem dX11_digest_67 : decode cX11_digest 67 = .ok (.iconst 1, 1) := by decide +kernel
theorem dX11_digest_68 : decode cX11_digest 68 = .ok (.goto 4, 3) := by decide +kernel
theorem dX11_digest_71 : decode cX11_digest 71 = .ok (.iconst 0, 1) := by decide +kernel
theorem dX11_digest_72 : decode cX11_digest 72 = .ok (.i2l, 1) := by decide +kernel
theorem dX11_digest_73 : decode cX11_digest 73 = .ok (.ladd, 1) := by decide +kernel
theorem dX11_digest_74 : decode cX11_digest 74 = .ok (.lstore_n 1, 1) := by decide +kernel
theorem dX11_digest_75 : decode cX11_digest 75 = .ok (.aload_n 0, 1) := by decide +kernel
theorem dX11_digest_76 : decode cX11_digest 76 = .ok (.getfield 12, 3) := by decide +kernel
theorem dX11_digest_79 : decode cX11_digest 79 = .ok (.getfield 163, 3) := by decide +kernel
theorem dX11_digest_82 : decode cX11_digest 82 = .ok (.iload_n 3, 1) := by decide +kernel
theorem dX11_digest_83 : decode cX11_digest 83 = .ok (.aaload, 1) := by decide +kernel
theorem dX11_digest_84 : decode cX11_digest 84 = .ok (.getfield 174, 3) := by decide +kernel
theorem dX11_digest_87 : decode cX11_digest 87 = .ok (.ifCond .le 48, 3) := by decide +kernel
theorem dX11_digest_90 : decode cX11_digest 90 = .ok (.aload_n 0, 1) := by decide +kernel
theorem dX11_digest_91 : decode cX11_digest 91 = .ok (.lload_n 1, 1) := by decide +kernel
theorem dX11_digest_92 : decode cX11_digest 92 = .ok (.aload_n 0, 1) := by decide +kernel
theorem dX11_digest_93 : decode cX11_digest 93 = .ok (.getfield 12, 3) := by decide +kernel
theorem dX11_digest_96 : decode cX11_digest 96 = .ok (.getfield 163, 3) := by decide +kernel
theorem dX11_digest_99 : decode cX11_digest 99 = .ok (.iload_n 3, 1) := by decide +kernel
theorem dX11_digest_100 : decode cX11_digest 100 = .ok (.aaload, 1) := by decide +kernel
theorem dX11_digest_101 : decode cX11_digest 101 = .ok (.invokevirtual 247, 3) := by decide +kernel
theorem dX11_digest_104 : decode cX11_digest 104 = .ok (.lstore_n 1, 1) := by decide +kernel
theorem dX11_digest_105 : decode cX11_digest 105 = .ok (.aload_n 0, 1) := by decide +kernel
theorem dX11_digest_106 : decode cX11_digest 106 = .ok (.lload_n 1, 1) := by decide +kernel
theorem dX11_digest_107 : decode cX11_digest 107 = .ok (.aload_n 0, 1) := by decide +kernel
theorem dX11_digest_108 : decode cX11_digest 108 = .ok (.getfield 12, 3) := by decide +kernel
theorem dX11_digest_111 : decode cX11_digest 111 = .ok (.getfield 163, 3) := by decide +kernel
theorem dX11_digest_114 : decode cX11_digest 114 = .ok (.iload_n 3, 1) := by decide +kernel
theorem dX11_digest_115 : decode cX11_digest 115 = .ok (.aaload, 1) := by decide +kernel
theorem dX11_digest_116 : decode cX11_digest 116 = .ok (.invokevirtual 251, 3) := by decide +kernel
theorem dX11_digest_119 : decode cX11_digest 119 = .ok (.lstore_n 1, 1) := by decide +kernel
theorem dX11_digest_120 : decode cX11_digest 120 = .ok (.aload_n 0, 1) := by decide +kernel
theorem dX11_digest_121 : decode cX11_digest 121 = .ok (.lload_n 1, 1) := by decide +kernel
theorem dX11_digest_122 : decode cX11_digest 122 = .ok (.aload_n 0, 1) := by decide +kernel
theorem dX11_digest_123 : decode cX11_digest 123 = .ok (.getfield 12, 3) := by decide +kernel
theorem dX11_digest_126 : decode cX11_digest 126 = .ok (.getfield 163, 3) := by decide +kernel
theorem dX11_digest_129 : decode cX11_digest 129 = .ok (.iload_n 3, 1) := by decide +kernel
theorem dX11_digest_130 : decode cX11_digest 130 = .ok (.aaload, 1) := by decide +kernel
theorem dX11_digest_131 : decode cX11_digest 131 = .ok (.invokevirtual 254, 3) := by decide +kernel
theorem dX11_digest_134 : decode cX11_digest 134 = .ok (.lstore_n 1, 1) := by decide +kernel
theorem dX11_digest_135 : decode cX11_digest 135 = .ok (.iinc 3 1, 3) := by decide +kernel
theorem dX11_digest_138 : decode cX11_digest 138 = .ok (.goto (-96), 3) := by decide +kernel
theorem dX11_digest_141 : decode cX11_digest 141 = .ok (.lload_n 1, 1) := by decide +kernel
theorem dX11_digest_142 : decode cX11_digest 142 = .ok (.lreturn, 1) := by decide +kernel
theorem dX11_hashTree_0 : decode cX11_hashTree 0 = .ok (.ldc2_w 241, 3) := by decide +kernel
theorem dX11_hashTree_3 : decode cX11_hashTree 3 = .ok (.lload_n 1, 1) := by decide +kernel
theorem dX11_hashTree_4 : decode cX11_hashTree 4 = .ok (.lmul, 1) := by decide +kernel
theorem dX11_hashTree_5 : decode cX11_hashTree 5 = .ok (.aload_n 0, 1) := by decide +kernel
theorem dX11_hashTree_6 : decode cX11_hashTree 6 = .ok (.getfield 12, 3) := by decide +kernel
theorem dX11_hashTree_9 : decode cX11_hashTree 9 = .ok (.getfield 73, 3) := by decide +kernel
theorem dX11_hashTree_12 : decode cX11_hashTree 12 = .ok (.getfield 77, 3) := by decide +kernel
theorem dX11_hashTree_15 : decode cX11_hashTree 15 = .ok (.i2l, 1) := by decide +kernel
theorem dX11_hashTree_16 : decode cX11_hashTree 16 = .ok (.ladd, 1) := by decide +kernel
theorem dX11_hashTree_17 : decode cX11_hashTree 17 = .ok (.lstore_n 3, 1) := by decide +kernel
theorem dX11_hashTree_18 : decode cX11_hashTree 18 = .ok (.iconst 0, 1) := by decide +kernel
theorem dX11_hashTree_19 : decode cX11_hashTree 19 = .ok (.istore 5, 2) := by decide +kernel
theorem dX11_hashTree_21 : decode cX11_hashTree 21 = .ok (.iload 5, 2) := by decide +kernel
theorem dX11_hashTree_23 : decode cX11_hashTree 23 = .ok (.aload_n 0, 1) := by decide +kernel
theorem dX11_hashTree_24 : decode cX11_hashTree 24 = .ok (.getfield 12, 3) := by decide +kernel
theorem dX11_hashTree_27 : decode cX11_hashTree 27 = .ok (.getfield 73, 3) := by decide +kernel
theorem dX11_hashTree_30 : decode cX11_hashTree 30 = .ok (.getfield 77, 3) := by decide +kernel
theorem dX11_hashTree_33 : decode cX11_hashTree 33 = .ok (.if_icmp .ge 47, 3) := by decide +kernel
theorem dX11_hashTree_36 : decode cX11_hashTree 36 = .ok (.iconst 0, 1) := by decide +kernel
theorem dX11_hashTree_37 : decode cX11_hashTree 37 = .ok (.istore 6, 2) := by decide +kernel
theorem dX11_hashTree_39 : decode cX11_hashTree 39 = .ok (.iload 6, 2) := by decide +kernel
theorem dX11_hashTree_41 : decode cX11_hashTree 41 = .ok (.bipush 6, 2) := by decide +kernel
theorem dX11_hashTree_43 : decode cX11_hashTree 43 = .ok (.if_icmp .ge 31, 3) := by decide +kernel
theorem dX11_hashTree_46 : decode cX11_hashTree 46 = .ok (.ldc2_w 241, 3) := by decide +kernel
theorem dX11_hashTree_49 : decode cX11_hashTree 49 = .ok (.lload_n 3, 1) := by decide +kernel
theorem dX11_hashTree_50 : decode cX11_hashTree 50 = .ok (.lmul, 1) := by decide +kernel
theorem dX11_hashTree_51 : decode cX11_hashTree 51 = .ok (.aload_n 0, 1) := by decide +kernel
theorem dX11_hashTree_52 : decode cX11_hashTree 52 = .ok (.getfield 12, 3) := by decide +kernel
theorem dX11_hashTree_55 : decode cX11_hashTree 55 = .ok (.getfield 73, 3) := by decide +kernel
theorem dX11_hashTree_58 : decode cX11_hashTree 58 = .ok (.iload 5, 2) := by decide +kernel
theorem dX11_hashTree_60 : decode cX11_hashTree 60 = .ok (.iload 6, 2) := by decide +kernel
theorem dX11_hashTree_62 : decode cX11_hashTree 62 = .ok (.invokevirtual 123, 3) := by decide +kernel
theorem dX11_hashTree_65 : decode cX11_hashTree 65 = .ok (.i2l, 1) := by decide +kernel
theorem dX11_hashTree_66 : decode cX11_hashTree 66 = .ok (.ladd, 1) := by decide +kernel
theorem dX11_hashTree_67 : decode cX11_hashTree 67 = .ok (.lstore_n 3, 1) := by decide +kernel
theorem dX11_hashTree_68 : decode cX11_hashTree 68 = .ok (.iinc 6 1, 3) := by decide +kernel
theorem dX11_hashTree_71 : decode cX11_hashTree 71 = .ok (.goto (-32), 3) := by decide +kernel
theorem dX11_hashTree_74 : decode cX11_hashTree 74 = .ok (.iinc 5 1, 3) := by decide +kernel
theorem dX11_hashTree_77 : decode cX11_hashTree 77 = .ok (.goto (-56), 3) := by decide +kernel
theorem dX11_hashTree_80 : decode cX11_hashTree 80 = .ok (.lload_n 3, 1) := by decide +kernel
theorem dX11_hashTree_81 : decode cX11_hashTree 81 = .ok (.lreturn, 1) := by decide +kernel
theorem dX11_hashWriting_0 : decode cX11_hashWriting 0 = .ok (.lload_n 1, 1) := by decide +kernel
theorem dX11_hashWriting_1 : decode cX11_hashWriting 1 = .ok (.lstore 4, 2) := by decide +kernel
theorem dX11_hashWriting_3 : decode cX11_hashWriting 3 = .ok (.iconst 0, 1) := by decide +kernel
theorem dX11_hashWriting_4 : decode cX11_hashWriting 4 = .ok (.istore 6, 2) := by decide +kernel
theorem dX11_hashWriting_6 : decode cX11_hashWriting 6 = .ok (.iload 6, 2) := by decide +kernel
theorem dX11_hashWriting_8 : decode cX11_hashWriting 8 = .ok (.bipush 6, 2) := by decide +kernel
theorem dX11_hashWriting_10 : decode cX11_hashWriting 10 = .ok (.if_icmp .ge 26, 3) := by decide +kernel
theorem dX11_hashWriting_13 : decode cX11_hashWriting 13 = .ok (.ldc2_w 241, 3) := by decide +kernel
theorem dX11_hashWriting_16 : decode cX11_hashWriting 16 = .ok (.lload 4, 2) := by decide +kernel
theorem dX11_hashWriting_18 : decode cX11_hashWriting 18 = .ok (.lmul, 1) := by decide +kernel
theorem dX11_hashWriting_19 : decode cX11_hashWriting 19 = .ok (.aload_n 0, 1) := by decide +kernel
theorem dX11_hashWriting_20 : decode cX11_hashWriting 20 = .ok (.aload_n 3, 1) := by decide +kernel
theorem dX11_hashWriting_21 : decode cX11_hashWriting 21 = .ok (.iload 6, 2) := by decide +kernel
theorem dX11_hashWriting_23 : decode cX11_hashWriting 23 = .ok (.invokevirtual 185, 3) := by decide +kernel
theorem dX11_hashWriting_26 : decode cX11_hashWriting 26 = .ok (.i2l, 1) := by decide +kernel
theorem dX11_hashWriting_27 : decode cX11_hashWriting 27 = .ok (.ladd, 1) := by decide +kernel
theorem dX11_hashWriting_28 : decode cX11_hashWriting 28 = .ok (.lstore 4, 2) := by decide +kernel
theorem dX11_hashWriting_30 : decode cX11_hashWriting 30 = .ok (.iinc 6 1, 3) := by decide +kernel
theorem dX11_hashWriting_33 : decode cX11_hashWriting 33 = .ok (.goto (-27), 3) := by decide +kernel
theorem dX11_hashWriting_36 : decode cX11_hashWriting 36 = .ok (.aload_n 3, 1) := by decide +kernel
theorem dX11_hashWriting_37 : decode cX11_hashWriting 37 = .ok (.aload_n 0, 1) := by decide +kernel
theorem dX11_hashWriting_38 : decode cX11_hashWriting 38 = .ok (.getfield 32, 3) := by decide +kernel
theorem dX11_hashWriting_41 : decode cX11_hashWriting 41 = .ok (.invokevirtual 178, 3) := by decide +kernel
theorem dX11_hashWriting_44 : decode cX11_hashWriting 44 = .ok (.iconst 0, 1) := by decide +kernel
theorem dX11_hashWriting_45 : decode cX11_hashWriting 45 = .ok (.istore 6, 2) := by decide +kernel
theorem dX11_hashWriting_47 : decode cX11_hashWriting 47 = .ok (.iload 6, 2) := by decide +kernel
theorem dX11_hashWriting_49 : decode cX11_hashWriting 49 = .ok (.aload_n 0, 1) := by decide +kernel
theorem dX11_hashWriting_50 : decode cX11_hashWriting 50 = .ok (.getfield 32, 3) := by decide +kernel
theorem dX11_hashWriting_53 : decode cX11_hashWriting 53 = .ok (.getfield 150, 3) := by decide +kernel
theorem dX11_hashWriting_56 : decode cX11_hashWriting 56 = .ok (.if_icmp .ge 28, 3) := by decide +kernel
theorem dX11_hashWriting_59 : decode cX11_hashWriting 59 = .ok (.ldc2_w 241, 3) := by decide +kernel
theorem dX11_hashWriting_62 : decode cX11_hashWriting 62 = .ok (.lload 4, 2) := by decide +kernel
theorem dX11_hashWriting_64 : decode cX11_hashWriting 64 = .ok (.lmul, 1) := by decide +kernel
theorem dX11_hashWriting_65 : decode cX11_hashWriting 65 = .ok (.aload_n 0, 1) := by decide +kernel
theorem dX11_hashWriting_66 : decode cX11_hashWriting 66 = .ok (.getfield 32, 3) := by decide +kernel
theorem dX11_hashWriting_69 : decode cX11_hashWriting 69 = .ok (.iload 6, 2) := by decide +kernel
theorem dX11_hashWriting_71 : decode cX11_hashWriting 71 = .ok (.invokevirtual 182, 3) := by decide +kernel
theorem dX11_hashWriting_74 : decode cX11_hashWriting 74 = .ok (.i2l, 1) := by decide +kernel
theorem dX11_hashWriting_75 : decode cX11_hashWriting 75 = .ok (.ladd, 1) := by decide +kernel
theorem dX11_hashWriting_76 : decode cX11_hashWriting 76 = .ok (.lstore 4, 2) := by decide +kernel
theorem dX11_hashWriting_78 : decode cX11_hashWriting 78 = .ok (.iinc 6 1, 3) := by decide +kernel
theorem dX11_hashWriting_81 : decode cX11_hashWriting 81 = .ok (.goto (-34), 3) := by decide +kernel
theorem dX11_hashWriting_84 : decode cX11_hashWriting 84 = .ok (.lload 4, 2) := by decide +kernel
theorem dX11_hashWriting_86 : decode cX11_hashWriting 86 = .ok (.lreturn, 1) := by decide +kernel
theorem dX11_hashSelection_0 : decode cX11_hashSelection 0 = .ok (.lload_n 1, 1) := by decide +kernel
theorem dX11_hashSelection_1 : decode cX11_hashSelection 1 = .ok (.lstore 4, 2) := by decide +kernel
theorem dX11_hashSelection_3 : decode cX11_hashSelection 3 = .ok (.aload_n 0, 1) := by decide +kernel
theorem dX11_hashSelection_4 : decode cX11_hashSelection 4 = .ok (.getfield 59, 3) := by decide +kernel
theorem dX11_hashSelection_7 : decode cX11_hashSelection 7 = .ok (.aload_n 0, 1) := by decide +kernel
theorem dX11_hashSelection_8 : decode cX11_hashSelection 8 = .ok (.getfield 12, 3) := by decide +kernel
theorem dX11_hashSelection_11 : decode cX11_hashSelection 11 = .ok (.getfield 73, 3) := by decide +kernel
theorem dX11_hashSelection_14 : decode cX11_hashSelection 14 = .ok (.aload_n 3, 1) := by decide +kernel
theorem dX11_hashSelection_15 : decode cX11_hashSelection 15 = .ok (.invokevirtual 206, 3) := by decide +kernel
theorem dX11_hashSelection_18 : decode cX11_hashSelection 18 = .ok (.iconst 0, 1) := by decide +kernel
theorem dX11_hashSelection_19 : decode cX11_hashSelection 19 = .ok (.istore 6, 2) := by decide +kernel
theorem dX11_hashSelection_21 : decode cX11_hashSelection 21 = .ok (.iload 6, 2) := by decide +kernel
theorem dX11_hashSelection_23 : decode cX11_hashSelection 23 = .ok (.aload_n 0, 1) := by decide +kernel
theorem dX11_hashSelection_24 : decode cX11_hashSelection 24 = .ok (.getfield 12, 3) := by decide +kernel
theorem dX11_hashSelection_27 : decode cX11_hashSelection 27 = .ok (.getfield 73, 3) := by decide +kernel
theorem dX11_hashSelection_30 : decode cX11_hashSelection 30 = .ok (.getfield 77, 3) := by decide +kernel
theorem dX11_hashSelection_33 : decode cX11_hashSelection 33 = .ok (.if_icmp .ge 58, 3) := by decide +kernel
theorem dX11_hashSelection_36 : decode cX11_hashSelection 36 = .ok (.aload_n 0, 1) := by decide +kernel
theorem dX11_hashSelection_37 : decode cX11_hashSelection 37 = .ok (.getfield 59, 3) := by decide +kernel
theorem dX11_hashSelection_40 : decode cX11_hashSelection 40 = .ok (.aload_n 3, 1) := by decide +kernel
theorem dX11_hashSelection_41 : decode cX11_hashSelection 41 = .ok (.iload 6, 2) := by decide +kernel
theorem dX11_hashSelection_43 : decode cX11_hashSelection 43 = .ok (.invokevirtual 214, 3) := by decide +kernel
theorem dX11_hashSelection_46 : decode cX11_hashSelection 46 = .ok (.lstore 7, 2) := by decide +kernel
theorem dX11_hashSelection_48 : decode cX11_hashSelection 48 = .ok (.ldc2_w 241, 3) := by decide +kernel
theorem dX11_hashSelection_51 : decode cX11_hashSelection 51 = .ok (.lload 4, 2) := by decide +kernel
theorem dX11_hashSelection_53 : decode cX11_hashSelection 53 = .ok (.lmul, 1) := by decide +kernel
theorem dX11_hashSelection_54 : decode cX11_hashSelection 54 = .ok (.lload 7, 2) := by decide +kernel
theorem dX11_hashSelection_56 : decode cX11_hashSelection 56 = .ok (.invokestatic 133, 3) := by decide +kernel
theorem dX11_hashSelection_59 : decode cX11_hashSelection 59 = .ok (.i2l, 1) := by decide +kernel
theorem dX11_hashSelection_60 : decode cX11_hashSelection 60 = .ok (.ladd, 1) := by decide +kernel
theorem dX11_hashSelection_61 : decode cX11_hashSelection 61 = .ok (.lstore 4, 2) := by decide +kernel
theorem dX11_hashSelection_63 : decode cX11_hashSelection 63 = .ok (.ldc2_w 241, 3) := by decide +kernel
theorem dX11_hashSelection_66 : decode cX11_hashSelection 66 = .ok (.lload 4, 2) := by decide +kernel
theorem dX11_hashSelection_68 : decode cX11_hashSelection 68 = .ok (.lmul, 1) := by decide +kernel
theorem dX11_hashSelection_69 : decode cX11_hashSelection 69 = .ok (.aload_n 0, 1) := by decide +kernel
theorem dX11_hashSelection_70 : decode cX11_hashSelection 70 = .ok (.getfield 12, 3) := by decide +kernel
theorem dX11_hashSelection_73 : decode cX11_hashSelection 73 = .ok (.getfield 73, 3) := by decide +kernel
theorem dX11_hashSelection_76 : decode cX11_hashSelection 76 = .ok (.lload 7, 2) := by decide +kernel
theorem dX11_hashSelection_78 : decode cX11_hashSelection 78 = .ok (.invokevirtual 196, 3) := by decide +kernel
theorem dX11_hashSelection_81 : decode cX11_hashSelection 81 = .ok (.i2l, 1) := by decide +kernel
theorem dX11_hashSelection_82 : decode cX11_hashSelection 82 = .ok (.ladd, 1) := by decide +kernel
theorem dX11_hashSelection_83 : decode cX11_hashSelection 83 = .ok (.lstore 4, 2) := by decide +kernel
theorem dX11_hashSelection_85 : decode cX11_hashSelection 85 = .ok (.iinc 6 1, 3) := by decide +kernel
theorem dX11_hashSelection_88 : decode cX11_hashSelection 88 = .ok (.goto (-67), 3) := by decide +kernel
theorem dX11_hashSelection_91 : decode cX11_hashSelection 91 = .ok (.lload 4, 2) := by decide +kernel
theorem dX11_hashSelection_93 : decode cX11_hashSelection 93 = .ok (.lreturn, 1) := by decide +kernel
theorem dX11_hashUses_0 : decode cX11_hashUses 0 = .ok (.lload_n 1, 1) := by decide +kernel
theorem dX11_hashUses_1 : decode cX11_hashUses 1 = .ok (.lstore 4, 2) := by decide +kernel
theorem dX11_hashUses_3 : decode cX11_hashUses 3 = .ok (.aload_n 0, 1) := by decide +kernel
theorem dX11_hashUses_4 : decode cX11_hashUses 4 = .ok (.getfield 38, 3) := by decide +kernel
theorem dX11_hashUses_7 : decode cX11_hashUses 7 = .ok (.aload_n 3, 1) := by decide +kernel
theorem dX11_hashUses_8 : decode cX11_hashUses 8 = .ok (.invokevirtual 170, 3) := by decide +kernel
theorem dX11_hashUses_11 : decode cX11_hashUses 11 = .ok (.aload_n 0, 1) := by decide +kernel
theorem dX11_hashUses_12 : decode cX11_hashUses 12 = .ok (.getfield 52, 3) := by decide +kernel
theorem dX11_hashUses_15 : decode cX11_hashUses 15 = .ok (.aload_n 0, 1) := by decide +kernel
theorem dX11_hashUses_16 : decode cX11_hashUses 16 = .ok (.getfield 38, 3) := by decide +kernel
theorem dX11_hashUses_19 : decode cX11_hashUses 19 = .ok (.invokevirtual 218, 3) := by decide +kernel
theorem dX11_hashUses_22 : decode cX11_hashUses 22 = .ok (.iconst 1, 1) := by decide +kernel
theorem dX11_hashUses_23 : decode cX11_hashUses 23 = .ok (.istore 6, 2) := by decide +kernel
theorem dX11_hashUses_25 : decode cX11_hashUses 25 = .ok (.iload 6, 2) := by decide +kernel
theorem dX11_hashUses_27 : decode cX11_hashUses 27 = .ok (.bipush 9, 2) := by decide +kernel
theorem dX11_hashUses_29 : decode cX11_hashUses 29 = .ok (.if_icmp .gt 29, 3) := by decide +kernel
theorem dX11_hashUses_32 : decode cX11_hashUses 32 = .ok (.ldc2_w 241, 3) := by decide +kernel
theorem dX11_hashUses_35 : decode cX11_hashUses 35 = .ok (.lload 4, 2) := by decide +kernel
theorem dX11_hashUses_37 : decode cX11_hashUses 37 = .ok (.lmul, 1) := by decide +kernel
theorem dX11_hashUses_38 : decode cX11_hashUses 38 = .ok (.aload_n 0, 1) := by decide +kernel
theorem dX11_hashUses_39 : decode cX11_hashUses 39 = .ok (.getfield 52, 3) := by decide +kernel
theorem dX11_hashUses_42 : decode cX11_hashUses 42 = .ok (.getfield 230, 3) := by decide +kernel
theorem dX11_hashUses_45 : decode cX11_hashUses 45 = .ok (.iload 6, 2) := by decide +kernel
theorem dX11_hashUses_47 : decode cX11_hashUses 47 = .ok (.iaload, 1) := by decide +kernel
theorem dX11_hashUses_48 : decode cX11_hashUses 48 = .ok (.i2l, 1) := by decide +kernel
theorem dX11_hashUses_49 : decode cX11_hashUses 49 = .ok (.ladd, 1) := by decide +kernel
theorem dX11_hashUses_50 : decode cX11_hashUses 50 = .ok (.lstore 4, 2) := by decide +kernel
theorem dX11_hashUses_52 : decode cX11_hashUses 52 = .ok (.iinc 6 1, 3) := by decide +kernel
theorem dX11_hashUses_55 : decode cX11_hashUses 55 = .ok (.goto (-30), 3) := by decide +kernel
theorem dX11_hashUses_58 : decode cX11_hashUses 58 = .ok (.lload 4, 2) := by decide +kernel
theorem dX11_hashUses_60 : decode cX11_hashUses 60 = .ok (.lreturn, 1) := by decide +kernel
theorem dX11_selectedFrom_0 : decode cX11_selectedFrom 0 = .ok (.aload_n 0, 1) := by decide +kernel
theorem dX11_selectedFrom_1 : decode cX11_selectedFrom 1 = .ok (.getfield 59, 3) := by decide +kernel
theorem dX11_selectedFrom_4 : decode cX11_selectedFrom 4 = .ok (.aload_n 0, 1) := by decide +kernel
theorem dX11_selectedFrom_5 : decode cX11_selectedFrom 5 = .ok (.getfield 12, 3) := by decide +kernel
theorem dX11_selectedFrom_8 : decode cX11_selectedFrom 8 = .ok (.getfield 73, 3) := by decide +kernel
theorem dX11_selectedFrom_11 : decode cX11_selectedFrom 11 = .ok (.aload_n 0, 1) := by decide +kernel
theorem dX11_selectedFrom_12 : decode cX11_selectedFrom 12 = .ok (.getfield 12, 3) := by decide +kernel
theorem dX11_selectedFrom_15 : decode cX11_selectedFrom 15 = .ok (.getfield 163, 3) := by decide +kernel
theorem dX11_selectedFrom_18 : decode cX11_selectedFrom 18 = .ok (.iload_n 1, 1) := by decide +kernel
theorem dX11_selectedFrom_19 : decode cX11_selectedFrom 19 = .ok (.aaload, 1) := by decide +kernel
theorem dX11_selectedFrom_20 : decode cX11_selectedFrom 20 = .ok (.invokevirtual 206, 3) := by decide +kernel
theorem dX11_selectedFrom_23 : decode cX11_selectedFrom 23 = .ok (.aload_n 0, 1) := by decide +kernel
theorem dX11_selectedFrom_24 : decode cX11_selectedFrom 24 = .ok (.getfield 59, 3) := by decide +kernel
theorem dX11_selectedFrom_27 : decode cX11_selectedFrom 27 = .ok (.aload_n 0, 1) := by decide +kernel
theorem dX11_selectedFrom_28 : decode cX11_selectedFrom 28 = .ok (.getfield 12, 3) := by decide +kernel
theorem dX11_selectedFrom_31 : decode cX11_selectedFrom 31 = .ok (.getfield 163, 3) := by decide +kernel
theorem dX11_selectedFrom_34 : decode cX11_selectedFrom 34 = .ok (.iload_n 1, 1) := by decide +kernel
theorem dX11_selectedFrom_35 : decode cX11_selectedFrom 35 = .ok (.aaload, 1) := by decide +kernel
theorem dX11_selectedFrom_36 : decode cX11_selectedFrom 36 = .ok (.iload_n 2, 1) := by decide +kernel
theorem dX11_selectedFrom_37 : decode cX11_selectedFrom 37 = .ok (.invokevirtual 214, 3) := by decide +kernel
theorem dX11_selectedFrom_40 : decode cX11_selectedFrom 40 = .ok (.lreturn, 1) := by decide +kernel
theorem dX11_measure_0 : decode cX11_measure 0 = .ok (.iload_n 2, 1) := by decide +kernel
theorem dX11_measure_1 : decode cX11_measure 1 = .ok (.tableswitch 68 0 4 #[35, 40, 45, 50, 55], 35) := by decide +kernel
theorem dX11_measure_36 : decode cX11_measure 36 = .ok (.aload_n 1, 1) := by decide +kernel
theorem dX11_measure_37 : decode cX11_measure 37 = .ok (.getfield 174, 3) := by decide +kernel
theorem dX11_measure_40 : decode cX11_measure 40 = .ok (.ireturn, 1) := by decide +kernel
theorem dX11_measure_41 : decode cX11_measure 41 = .ok (.aload_n 1, 1) := by decide +kernel
theorem dX11_measure_42 : decode cX11_measure 42 = .ok (.invokevirtual 257, 3) := by decide +kernel
theorem dX11_measure_45 : decode cX11_measure 45 = .ok (.ireturn, 1) := by decide +kernel
theorem dX11_measure_46 : decode cX11_measure 46 = .ok (.aload_n 1, 1) := by decide +kernel
theorem dX11_measure_47 : decode cX11_measure 47 = .ok (.invokevirtual 260, 3) := by decide +kernel
theorem dX11_measure_50 : decode cX11_measure 50 = .ok (.ireturn, 1) := by decide +kernel
theorem dX11_measure_51 : decode cX11_measure 51 = .ok (.aload_n 1, 1) := by decide +kernel
theorem dX11_measure_52 : decode cX11_measure 52 = .ok (.invokevirtual 263, 3) := by decide +kernel
theorem dX11_measure_55 : decode cX11_measure 55 = .ok (.ireturn, 1) := by decide +kernel
theorem dX11_measure_56 : decode cX11_measure 56 = .ok (.aload_n 1, 1) := by decide +kernel
theorem dX11_measure_57 : decode cX11_measure 57 = .ok (.invokevirtual 266, 3) := by decide +kernel
theorem dX11_measure_60 : decode cX11_measure 60 = .ok (.ifCond .eq 7, 3) := by decide +kernel
theorem dX11_measure_63 : decode cX11_measure 63 = .ok (.iconst 1, 1) := by decide +kernel
theorem dX11_measure_64 : decode cX11_measure 64 = .ok (.goto 4, 3) := by decide +kernel
theorem dX11_measure_67 : decode cX11_measure 67 = .ok (.iconst 0, 1) := by decide +kernel
theorem dX11_measure_68 : decode cX11_measure 68 = .ok (.ireturn, 1) := by decide +kernel
theorem dX11_measure_69 : decode cX11_measure 69 = .ok (.aload_n 1, 1) := by decide +kernel
theorem dX11_measure_70 : decode cX11_measure 70 = .ok (.aload_n 0, 1) := by decide +kernel
theorem dX11_measure_71 : decode cX11_measure 71 = .ok (.getfield 32, 3) := by decide +kernel
theorem dX11_measure_74 : decode cX11_measure 74 = .ok (.invokevirtual 178, 3) := by decide +kernel
theorem dX11_measure_77 : decode cX11_measure 77 = .ok (.aload_n 0, 1) := by decide +kernel
theorem dX11_measure_78 : decode cX11_measure 78 = .ok (.getfield 32, 3) := by decide +kernel
theorem dX11_measure_81 : decode cX11_measure 81 = .ok (.getfield 150, 3) := by decide +kernel
theorem dX11_measure_84 : decode cX11_measure 84 = .ok (.ireturn, 1) := by decide +kernel
theorem dX11_requireNode_0 : decode cX11_requireNode 0 = .ok (.iload_n 1, 1) := by decide +kernel
theorem dX11_requireNode_1 : decode cX11_requireNode 1 = .ok (.ifCond .lt 17, 3) := by decide +kernel
theorem dX11_requireNode_4 : decode cX11_requireNode 4 = .ok (.iload_n 1, 1) := by decide +kernel
theorem dX11_requireNode_5 : decode cX11_requireNode 5 = .ok (.aload_n 0, 1) := by decide +kernel
theorem dX11_requireNode_6 : decode cX11_requireNode 6 = .ok (.getfield 12, 3) := by decide +kernel
theorem dX11_requireNode_9 : decode cX11_requireNode 9 = .ok (.getfield 73, 3) := by decide +kernel
theorem dX11_requireNode_12 : decode cX11_requireNode 12 = .ok (.getfield 77, 3) := by decide +kernel
theorem dX11_requireNode_15 : decode cX11_requireNode 15 = .ok (.if_icmp .lt 14, 3) := by decide +kernel
theorem dX11_requireNode_18 : decode cX11_requireNode 18 = .ok (.new 270, 3) := by decide +kernel
theorem dX11_requireNode_21 : decode cX11_requireNode 21 = .ok (.dup, 1) := by decide +kernel
theorem dX11_requireNode_22 : decode cX11_requireNode 22 = .ok (.ldc_w 272, 3) := by decide +kernel
theorem dX11_requireNode_25 : decode cX11_requireNode 25 = .ok (.invokespecial 274, 3) := by decide +kernel
theorem dX11_requireNode_28 : decode cX11_requireNode 28 = .ok (.athrow, 1) := by decide +kernel
theorem dX11_requireNode_29 : decode cX11_requireNode 29 = .ok (.return_, 1) := by decide +kernel
theorem dX11_requirePlace_0 : decode cX11_requirePlace 0 = .ok (.iload_n 1, 1) := by decide +kernel
theorem dX11_requirePlace_1 : decode cX11_requirePlace 1 = .ok (.ifCond .lt 8, 3) := by decide +kernel
theorem dX11_requirePlace_4 : decode cX11_requirePlace 4 = .ok (.iload_n 1, 1) := by decide +kernel
theorem dX11_requirePlace_5 : decode cX11_requirePlace 5 = .ok (.iconst 4, 1) := by decide +kernel
theorem dX11_requirePlace_6 : decode cX11_requirePlace 6 = .ok (.if_icmp .lt 14, 3) := by decide +kernel
theorem dX11_requirePlace_9 : decode cX11_requirePlace 9 = .ok (.new 270, 3) := by decide +kernel
theorem dX11_requirePlace_12 : decode cX11_requirePlace 12 = .ok (.dup, 1) := by decide +kernel
theorem dX11_requirePlace_13 : decode cX11_requirePlace 13 = .ok (.ldc_w 275, 3) := by decide +kernel
theorem dX11_requirePlace_16 : decode cX11_requirePlace 16 = .ok (.invokespecial 274, 3) := by decide +kernel
theorem dX11_requirePlace_19 : decode cX11_requirePlace 19 = .ok (.athrow, 1) := by decide +kernel
theorem dX11_requirePlace_20 : decode cX11_requirePlace 20 = .ok (.return_, 1) := by decide +kernel
theorem dX11_requireQuery_0 : decode cX11_requireQuery 0 = .ok (.aload_n 0, 1) := by decide +kernel
theorem dX11_requireQuery_1 : decode cX11_requireQuery 1 = .ok (.getfield 12, 3) := by decide +kernel
theorem dX11_requireQuery_4 : decode cX11_requireQuery 4 = .ok (.getfield 163, 3) := by decide +kernel
theorem dX11_requireQuery_7 : decode cX11_requireQuery 7 = .ok (.iload_n 1, 1) := by decide +kernel
theorem dX11_requireQuery_8 : decode cX11_requireQuery 8 = .ok (.aaload, 1) := by decide +kernel
theorem dX11_requireQuery_9 : decode cX11_requireQuery 9 = .ok (.getfield 174, 3) := by decide +kernel
theorem dX11_requireQuery_12 : decode cX11_requireQuery 12 = .ok (.ifCond .ne 14, 3) := by decide +kernel
theorem dX11_requireQuery_15 : decode cX11_requireQuery 15 = .ok (.new 83, 3) := by decide +kernel
theorem dX11_requireQuery_18 : decode cX11_requireQuery 18 = .ok (.dup, 1) := by decide +kernel
theorem dX11_requireQuery_19 : decode cX11_requireQuery 19 = .ok (.ldc_w 277, 3) := by decide +kernel
theorem dX11_requireQuery_22 : decode cX11_requireQuery 22 = .ok (.invokespecial 87, 3) := by decide +kernel
theorem dX11_requireQuery_25 : decode cX11_requireQuery 25 = .ok (.athrow, 1) := by decide +kernel
theorem dX11_requireQuery_26 : decode cX11_requireQuery 26 = .ok (.return_, 1) := by decide +kernel
theorem dX11_requireBelow_0 : decode cX11_requireBelow 0 = .ok (.iload_n 1, 1) := by decide +kernel
theorem dX11_requireBelow_1 : decode cX11_requireBelow 1 = .ok (.ifCond .lt 8, 3) := by decide +kernel
theorem dX11_requireBelow_4 : decode cX11_requireBelow 4 = .ok (.iload_n 1, 1) := by decide +kernel
theorem dX11_requireBelow_5 : decode cX11_requireBelow 5 = .ok (.iload_n 2, 1) := by decide +kernel
theorem dX11_requireBelow_6 : decode cX11_requireBelow 6 = .ok (.if_icmp .lt 14, 3) := by decide +kernel
theorem dX11_requireBelow_9 : decode cX11_requireBelow 9 = .ok (.new 225, 3) := by decide +kernel
theorem dX11_requireBelow_12 : decode cX11_requireBelow 12 = .ok (.dup, 1) := by decide +kernel
theorem dX11_requireBelow_13 : decode cX11_requireBelow 13 = .ok (.ldc_w 279, 3) := by decide +kernel
theorem dX11_requireBelow_16 : decode cX11_requireBelow 16 = .ok (.invokespecial 229, 3) := by decide +kernel
theorem dX11_requireBelow_19 : decode cX11_requireBelow 19 = .ok (.athrow, 1) := by decide +kernel
theorem dX11_requireBelow_20 : decode cX11_requireBelow 20 = .ok (.return_, 1) := by decide +kernel
theorem dX11_requireNotNegative_0 : decode cX11_requireNotNegative 0 = .ok (.iload_n 1, 1) := by decide +kernel
theorem dX11_requireNotNegative_1 : decode cX11_requireNotNegative 1 = .ok (.ifCond .ge 14, 3) := by decide +kernel
theorem dX11_requireNotNegative_4 : decode cX11_requireNotNegative 4 = .ok (.new 225, 3) := by decide +kernel
theorem dX11_requireNotNegative_7 : decode cX11_requireNotNegative 7 = .ok (.dup, 1) := by decide +kernel
theorem dX11_requireNotNegative_8 : decode cX11_requireNotNegative 8 = .ok (.ldc_w 281, 3) := by decide +kernel
theorem dX11_requireNotNegative_11 : decode cX11_requireNotNegative 11 = .ok (.invokespecial 229, 3) := by decide +kernel
theorem dX11_requireNotNegative_14 : decode cX11_requireNotNegative 14 = .ok (.athrow, 1) := by decide +kernel
theorem dX11_requireNotNegative_15 : decode cX11_requireNotNegative 15 = .ok (.return_, 1) := by decide +kernel
theorem dX12_init_0 : decode cX12_init 0 = .ok (.aload_n 0, 1) := by decide +kernel
theorem dX12_init_1 : decode cX12_init 1 = .ok (.invokespecial 1, 3) := by decide +kernel
theorem dX12_init_4 : decode cX12_init 4 = .ok (.aload_n 0, 1) := by decide +kernel
theorem dX12_init_5 : decode cX12_init 5 = .ok (.sipush 1725, 3) := by decide +kernel
theorem dX12_init_8 : decode cX12_init 8 = .ok (.newarray .int, 2) := by decide +kernel
theorem dX12_init_10 : decode cX12_init 10 = .ok (.putfield 7, 3) := by decide +kernel
theorem dX12_init_13 : decode cX12_init 13 = .ok (.aload_n 0, 1) := by decide +kernel
theorem dX12_init_14 : decode cX12_init 14 = .ok (.sipush 6900, 3) := by decide +kernel
theorem dX12_init_17 : decode cX12_init 17 = .ok (.newarray .int, 2) := by decide +kernel
theorem dX12_init_19 : decode cX12_init 19 = .ok (.putfield 13, 3) := by decide +kernel
theorem dX12_init_22 : decode cX12_init 22 = .ok (.aload_n 0, 1) := by decide +kernel
theorem dX12_init_23 : decode cX12_init 23 = .ok (.bipush 80, 2) := by decide +kernel
theorem dX12_init_25 : decode cX12_init 25 = .ok (.newarray .int, 2) := by decide +kernel
theorem dX12_init_27 : decode cX12_init 27 = .ok (.putfield 16, 3) := by decide +kernel
theorem dX12_init_30 : decode cX12_init 30 = .ok (.aload_n 0, 1) := by decide +kernel
theorem dX12_init_31 : decode cX12_init 31 = .ok (.bipush 120, 2) := by decide +kernel
theorem dX12_init_33 : decode cX12_init 33 = .ok (.newarray .int, 2) := by decide +kernel
theorem dX12_init_35 : decode cX12_init 35 = .ok (.putfield 19, 3) := by decide +kernel
theorem dX12_init_38 : decode cX12_init 38 = .ok (.aload_n 0, 1) := by decide +kernel
theorem dX12_init_39 : decode cX12_init 39 = .ok (.bipush 40, 2) := by decide +kernel
theorem dX12_init_41 : decode cX12_init 41 = .ok (.newarray .int, 2) := by decide +kernel
theorem dX12_init_43 : decode cX12_init 43 = .ok (.putfield 22, 3) := by decide +kernel
theorem dX12_init_46 : decode cX12_init 46 = .ok (.aload_n 0, 1) := by decide +kernel
theorem dX12_init_47 : decode cX12_init 47 = .ok (.sipush 400, 3) := by decide +kernel
theorem dX12_init_50 : decode cX12_init 50 = .ok (.newarray .int, 2) := by decide +kernel
theorem dX12_init_52 : decode cX12_init 52 = .ok (.putfield 25, 3) := by decide +kernel
theorem dX12_init_55 : decode cX12_init 55 = .ok (.aload_n 0, 1) := by decide +kernel
theorem dX12_init_56 : decode cX12_init 56 = .ok (.sipush 6537, 3) := by decide +kernel
theorem dX12_init_59 : decode cX12_init 59 = .ok (.newarray .int, 2) := by decide +kernel
theorem dX12_init_61 : decode cX12_init 61 = .ok (.putfield 28, 3) := by decide +kernel
theorem dX12_init_64 : decode cX12_init 64 = .ok (.aload_n 0, 1) := by decide +kernel
theorem dX12_init_65 : decode cX12_init 65 = .ok (.sipush 1000, 3) := by decide +kernel
theorem dX12_init_68 : decode cX12_init 68 = .ok (.newarray .int, 2) := by decide +kernel
theorem dX12_init_70 : decode cX12_init 70 = .ok (.putfield 31, 3) := by decide +kernel
theorem dX12_init_73 : decode cX12_init 73 = .ok (.aload_n 0, 1) := by decide +kernel
theorem dX12_init_74 : decode cX12_init 74 = .ok (.iconst 4, 1) := by decide +kernel
theorem dX12_init_75 : decode cX12_init 75 = .ok (.newarray .int, 2) := by decide +kernel
theorem dX12_init_77 : decode cX12_init 77 = .ok (.putfield 34, 3) := by decide +kernel
theorem dX12_init_80 : decode cX12_init 80 = .ok (.aload_n 0, 1) := by decide +kernel
theorem dX12_init_81 : decode cX12_init 81 = .ok (.bipush 40, 2) := by decide +kernel
theorem dX12_init_83 : decode cX12_init 83 = .ok (.newarray .boolean, 2) := by decide +kernel
theorem dX12_init_85 : decode cX12_init 85 = .ok (.putfield 37, 3) := by decide +kernel
theorem dX12_init_88 : decode cX12_init 88 = .ok (.aload_n 0, 1) := by decide +kernel
theorem dX12_init_89 : decode cX12_init 89 = .ok (.bipush 40, 2) := by decide +kernel
theorem dX12_init_91 : decode cX12_init 91 = .ok (.newarray .boolean, 2) := by decide +kernel
theorem dX12_init_93 : decode cX12_init 93 = .ok (.putfield 41, 3) := by decide +kernel
theorem dX12_init_96 : decode cX12_init 96 = .ok (.aload_n 0, 1) := by decide +kernel
theorem dX12_init_97 : decode cX12_init 97 = .ok (.bipush 40, 2) := by decide +kernel
theorem dX12_init_99 : decode cX12_init 99 = .ok (.newarray .int, 2) := by decide +kernel
theorem dX12_init_101 : decode cX12_init 101 = .ok (.putfield 44, 3) := by decide +kernel
theorem dX12_init_104 : decode cX12_init 104 = .ok (.aload_n 0, 1) := by decide +kernel
theorem dX12_init_105 : decode cX12_init 105 = .ok (.bipush 40, 2) := by decide +kernel
theorem dX12_init_107 : decode cX12_init 107 = .ok (.newarray .boolean, 2) := by decide +kernel
theorem dX12_init_109 : decode cX12_init 109 = .ok (.putfield 47, 3) := by decide +kernel
theorem dX12_init_112 : decode cX12_init 112 = .ok (.aload_n 0, 1) := by decide +kernel
theorem dX12_init_113 : decode cX12_init 113 = .ok (.bipush 40, 2) := by decide +kernel
theorem dX12_init_115 : decode cX12_init 115 = .ok (.newarray .boolean, 2) := by decide +kernel
theorem dX12_init_117 : decode cX12_init 117 = .ok (.putfield 50, 3) := by decide +kernel
theorem dX12_init_120 : decode cX12_init 120 = .ok (.aload_n 0, 1) := by decide +kernel
theorem dX12_init_121 : decode cX12_init 121 = .ok (.bipush 40, 2) := by decide +kernel
theorem dX12_init_123 : decode cX12_init 123 = .ok (.newarray .boolean, 2) := by decide +kernel
theorem dX12_init_125 : decode cX12_init 125 = .ok (.putfield 53, 3) := by decide +kernel
theorem dX12_init_128 : decode cX12_init 128 = .ok (.aload_n 0, 1) := by decide +kernel
theorem dX12_init_129 : decode cX12_init 129 = .ok (.sipush 1600, 3) := by decide +kernel
theorem dX12_init_132 : decode cX12_init 132 = .ok (.newarray .boolean, 2) := by decide +kernel
theorem dX12_init_134 : decode cX12_init 134 = .ok (.putfield 56, 3) := by decide +kernel
theorem dX12_init_137 : decode cX12_init 137 = .ok (.aload_n 0, 1) := by decide +kernel
theorem dX12_init_138 : decode cX12_init 138 = .ok (.bipush 10, 2) := by decide +kernel
theorem dX12_init_140 : decode cX12_init 140 = .ok (.newarray .int, 2) := by decide +kernel
theorem dX12_init_142 : decode cX12_init 142 = .ok (.putfield 59, 3) := by decide +kernel
theorem dX12_init_145 : decode cX12_init 145 = .ok (.aload_n 0, 1) := by decide +kernel
theorem dX12_init_146 : decode cX12_init 146 = .ok (.getfield 7, 3) := by decide +kernel
theorem dX12_init_149 : decode cX12_init 149 = .ok (.iconst 0, 1) := by decide +kernel
theorem dX12_init_150 : decode cX12_init 150 = .ok (.iconst 1, 1) := by decide +kernel
theorem dX12_init_151 : decode cX12_init 151 = .ok (.iastore, 1) := by decide +kernel
theorem dX12_init_152 : decode cX12_init 152 = .ok (.aload_n 0, 1) := by decide +kernel
theorem dX12_init_153 : decode cX12_init 153 = .ok (.getfield 7, 3) := by decide +kernel
theorem dX12_init_156 : decode cX12_init 156 = .ok (.iconst 3, 1) := by decide +kernel
theorem dX12_init_157 : decode cX12_init 157 = .ok (.iconst (-1), 1) := by decide +kernel
theorem dX12_init_158 : decode cX12_init 158 = .ok (.iastore, 1) := by decide +kernel
theorem dX12_init_159 : decode cX12_init 159 = .ok (.return_, 1) := by decide +kernel
theorem dX12_thrown_0 : decode cX12_thrown 0 = .ok (.aload_n 0, 1) := by decide +kernel
theorem dX12_thrown_1 : decode cX12_thrown 1 = .ok (.getfield 62, 3) := by decide +kernel
theorem dX12_thrown_4 : decode cX12_thrown 4 = .ok (.ireturn, 1) := by decide +kernel
theorem dX12_fails_0 : decode cX12_fails 0 = .ok (.aload_n 0, 1) := by decide +kernel
theorem dX12_fails_1 : decode cX12_fails 1 = .ok (.iload_n 1, 1) := by decide +kernel
theorem dX12_fails_2 : decode cX12_fails 2 = .ok (.putfield 62, 3) := by decide +kernel
theorem dX12_fails_5 : decode cX12_fails 5 = .ok (.iconst 0, 1) := by decide +kernel
theorem dX12_fails_6 : decode cX12_fails 6 = .ok (.ireturn, 1) := by decide +kernel
theorem dX12_in_0 : decode cX12_in 0 = .ok (.iload_n 0, 1) := by decide +kernel
theorem dX12_in_1 : decode cX12_in 1 = .ok (.iload_n 1, 1) := by decide +kernel
theorem dX12_in_2 : decode cX12_in 2 = .ok (.if_icmp .lt 12, 3) := by decide +kernel
theorem dX12_in_5 : decode cX12_in 5 = .ok (.iload_n 0, 1) := by decide +kernel
theorem dX12_in_6 : decode cX12_in 6 = .ok (.iload_n 2, 1) := by decide +kernel
theorem dX12_in_7 : decode cX12_in 7 = .ok (.if_icmp .gt 7, 3) := by decide +kernel
theorem dX12_in_10 : decode cX12_in 10 = .ok (.iconst 1, 1) := by decide +kernel
theorem dX12_in_11 : decode cX12_in 11 = .ok (.goto 4, 3) := by decide +kernel
theorem dX12_in_14 : decode cX12_in 14 = .ok (.iconst 0, 1) := by decide +kernel
theorem dX12_in_15 : decode cX12_in 15 = .ok (.ireturn, 1) := by decide +kernel
theorem dX12_keep_0 : decode cX12_keep 0 = .ok (.aload_n 0, 1) := by decide +kernel
theorem dX12_keep_1 : decode cX12_keep 1 = .ok (.getfield 66, 3) := by decide +kernel
theorem dX12_keep_4 : decode cX12_keep 4 = .ok (.iconst 4, 1) := by decide +kernel
theorem dX12_keep_5 : decode cX12_keep 5 = .ok (.if_icmp .ne 44, 3) := by decide +kernel
theorem dX12_keep_8 : decode cX12_keep 8 = .ok (.iconst 0, 1) := by decide +kernel
theorem dX12_keep_9 : decode cX12_keep 9 = .ok (.istore_n 1, 1) := by decide +kernel
theorem dX12_keep_10 : decode cX12_keep 10 = .ok (.iload_n 1, 1) := by decide +kernel
theorem dX12_keep_11 : decode cX12_keep 11 = .ok (.sipush 5175, 3) := by decide +kernel
theorem dX12_keep_14 : decode cX12_keep 14 = .ok (.if_icmp .ge 25, 3) := by decide +kernel
theorem dX12_keep_17 : decode cX12_keep 17 = .ok (.aload_n 0, 1) := by decide +kernel
theorem dX12_keep_18 : decode cX12_keep 18 = .ok (.getfield 13, 3) := by decide +kernel
theorem dX12_keep_21 : decode cX12_keep 21 = .ok (.iload_n 1, 1) := by decide +kernel
theorem dX12_keep_22 : decode cX12_keep 22 = .ok (.aload_n 0, 1) := by decide +kernel
theorem dX12_keep_23 : decode cX12_keep 23 = .ok (.getfield 13, 3) := by decide +kernel
theorem dX12_keep_26 : decode cX12_keep 26 = .ok (.iload_n 1, 1) := by decide +kernel
theorem dX12_keep_27 : decode cX12_keep 27 = .ok (.sipush 1725, 3) := by decide +kernel
theorem dX12_keep_30 : decode cX12_keep 30 = .ok (.iadd, 1) := by decide +kernel
theorem dX12_keep_31 : decode cX12_keep 31 = .ok (.iaload, 1) := by decide +kernel
theorem dX12_keep_32 : decode cX12_keep 32 = .ok (.iastore, 1) := by decide +kernel
theorem dX12_keep_33 : decode cX12_keep 33 = .ok (.iinc 1 1, 3) := by decide +kernel
theorem dX12_keep_36 : decode cX12_keep 36 = .ok (.goto (-26), 3) := by decide +kernel
theorem dX12_keep_39 : decode cX12_keep 39 = .ok (.aload_n 0, 1) := by decide +kernel
theorem dX12_keep_40 : decode cX12_keep 40 = .ok (.dup, 1) := by decide +kernel
theorem dX12_keep_41 : decode cX12_keep 41 = .ok (.getfield 66, 3) := by decide +kernel
theorem dX12_keep_44 : decode cX12_keep 44 = .ok (.iconst 1, 1) := by decide +kernel
theorem dX12_keep_45 : decode cX12_keep 45 = .ok (.isub, 1) := by decide +kernel
theorem dX12_keep_46 : decode cX12_keep 46 = .ok (.putfield 66, 3) := by decide +kernel
theorem dX12_keep_49 : decode cX12_keep 49 = .ok (.iconst 0, 1) := by decide +kernel
theorem dX12_keep_50 : decode cX12_keep 50 = .ok (.istore_n 1, 1) := by decide +kernel
theorem dX12_keep_51 : decode cX12_keep 51 = .ok (.iload_n 1, 1) := by decide +kernel
theorem dX12_keep_52 : decode cX12_keep 52 = .ok (.sipush 1725, 3) := by decide +kernel
theorem dX12_keep_55 : decode cX12_keep 55 = .ok (.if_icmp .ge 30, 3) := by decide +kernel
theorem dX12_keep_58 : decode cX12_keep 58 = .ok (.aload_n 0, 1) := by decide +kernel
theorem dX12_keep_59 : decode cX12_keep 59 = .ok (.getfield 13, 3) := by decide +kernel
theorem dX12_keep_62 : decode cX12_keep 62 = .ok (.sipush 1725, 3) := by decide +kernel
theorem dX12_keep_65 : decode cX12_keep 65 = .ok (.aload_n 0, 1) := by decide +kernel
theorem dX12_keep_66 : decode cX12_keep 66 = .ok (.getfield 66, 3) := by decide +kernel
theorem dX12_keep_69 : decode cX12_keep 69 = .ok (.imul, 1) := by decide +kernel
theorem dX12_keep_70 : decode cX12_keep 70 = .ok (.iload_n 1, 1) := by decide +kernel
theorem dX12_keep_71 : decode cX12_keep 71 = .ok (.iadd, 1) := by decide +kernel
theorem dX12_keep_72 : decode cX12_keep 72 = .ok (.aload_n 0, 1) := by decide +kernel
theorem dX12_keep_73 : decode cX12_keep 73 = .ok (.getfield 7, 3) := by decide +kernel
theorem dX12_keep_76 : decode cX12_keep 76 = .ok (.iload_n 1, 1) := by decide +kernel
theorem dX12_keep_77 : decode cX12_keep 77 = .ok (.iaload, 1) := by decide +kernel
theorem dX12_keep_78 : decode cX12_keep 78 = .ok (.iastore, 1) := by decide +kernel
theorem dX12_keep_79 : decode cX12_keep 79 = .ok (.iinc 1 1, 3) := by decide +kernel
theorem dX12_keep_82 : decode cX12_keep 82 = .ok (.goto (-31), 3) := by decide +kernel
theorem dX12_keep_85 : decode cX12_keep 85 = .ok (.aload_n 0, 1) := by decide +kernel
theorem dX12_keep_86 : decode cX12_keep 86 = .ok (.dup, 1) := by decide +kernel
theorem dX12_keep_87 : decode cX12_keep 87 = .ok (.getfield 66, 3) := by decide +kernel
theorem dX12_keep_90 : decode cX12_keep 90 = .ok (.iconst 1, 1) := by decide +kernel
theorem dX12_keep_91 : decode cX12_keep 91 = .ok (.iadd, 1) := by decide +kernel
theorem dX12_keep_92 : decode cX12_keep 92 = .ok (.putfield 66, 3) := by decide +kernel
theorem dX12_keep_95 : decode cX12_keep 95 = .ok (.return_, 1) := by decide +kernel
theorem dX12_isNode_0 : decode cX12_isNode 0 = .ok (.iload_n 1, 1) := by decide +kernel
theorem dX12_isNode_1 : decode cX12_isNode 1 = .ok (.iconst 0, 1) := by decide +kernel
theorem dX12_isNode_2 : decode cX12_isNode 2 = .ok (.aload_n 0, 1) := by decide +kernel
theorem dX12_isNode_3 : decode cX12_isNode 3 = .ok (.getfield 7, 3) := by decide +kernel
theorem dX12_isNode_6 : decode cX12_isNode 6 = .ok (.iconst 0, 1) := by decide +kernel
theorem dX12_isNode_7 : decode cX12_isNode 7 = .ok (.iaload, 1) := by decide +kernel
theorem dX12_isNode_8 : decode cX12_isNode 8 = .ok (.iconst 1, 1) := by decide +kernel
theorem dX12_isNode_9 : decode cX12_isNode 9 = .ok (.isub, 1) := by decide +kernel
theorem dX12_isNode_10 : decode cX12_isNode 10 = .ok (.invokestatic 69, 3) := by decide +kernel
theorem dX12_isNode_13 : decode cX12_isNode 13 = .ok (.ireturn, 1) := by decide +kernel
theorem dX12_nameOf_0 : decode cX12_nameOf 0 = .ok (.aload_n 0, 1) := by decide +kernel
theorem dX12_nameOf_1 : decode cX12_nameOf 1 = .ok (.getfield 7, 3) := by decide +kernel
theorem dX12_nameOf_4 : decode cX12_nameOf 4 = .ok (.iconst 1, 1) := by decide +kernel
theorem dX12_nameOf_5 : decode cX12_nameOf 5 = .ok (.iconst 3, 1) := by decide +kernel
theorem dX12_nameOf_6 : decode cX12_nameOf 6 = .ok (.iload_n 1, 1) := by decide +kernel
theorem dX12_nameOf_7 : decode cX12_nameOf 7 = .ok (.imul, 1) := by decide +kernel
theorem dX12_nameOf_8 : decode cX12_nameOf 8 = .ok (.iadd, 1) := by decide +kernel
theorem dX12_nameOf_9 : decode cX12_nameOf 9 = .ok (.iaload, 1) := by decide +kernel
theorem dX12_nameOf_10 : decode cX12_nameOf 10 = .ok (.ireturn, 1) := by decide +kernel
theorem dX12_valueOf_0 : decode cX12_valueOf 0 = .ok (.aload_n 0, 1) := by decide +kernel
theorem dX12_valueOf_1 : decode cX12_valueOf 1 = .ok (.getfield 7, 3) := by decide +kernel
theorem dX12_valueOf_4 : decode cX12_valueOf 4 = .ok (.iconst 1, 1) := by decide +kernel
theorem dX12_valueOf_5 : decode cX12_valueOf 5 = .ok (.iconst 3, 1) := by decide +kernel
theorem dX12_valueOf_6 : decode cX12_valueOf 6 = .ok (.iload_n 1, 1) := by decide +kernel
theorem dX12_valueOf_7 : decode cX12_valueOf 7 = .ok (.imul, 1) := by decide +kernel
theorem dX12_valueOf_8 : decode cX12_valueOf 8 = .ok (.iadd, 1) := by decide +kernel
theorem dX12_valueOf_9 : decode cX12_valueOf 9 = .ok (.iconst 1, 1) := by decide +kernel
theorem dX12_valueOf_10 : decode cX12_valueOf 10 = .ok (.iadd, 1) := by decide +kernel
theorem dX12_valueOf_11 : decode cX12_valueOf 11 = .ok (.iaload, 1) := by decide +kernel
theorem dX12_valueOf_12 : decode cX12_valueOf 12 = .ok (.ireturn, 1) := by decide +kernel
theorem dX12_parentOf_0 : decode cX12_parentOf 0 = .ok (.aload_n 0, 1) := by decide +kernel
theorem dX12_parentOf_1 : decode cX12_parentOf 1 = .ok (.getfield 7, 3) := by decide +kernel
theorem dX12_parentOf_4 : decode cX12_parentOf 4 = .ok (.iconst 1, 1) := by decide +kernel
theorem dX12_parentOf_5 : decode cX12_parentOf 5 = .ok (.iconst 3, 1) := by decide +kernel
theorem dX12_parentOf_6 : decode cX12_parentOf 6 = .ok (.iload_n 1, 1) := by decide +kernel
theorem dX12_parentOf_7 : decode cX12_parentOf 7 = .ok (.imul, 1) := by decide +kernel
theorem dX12_parentOf_8 : decode cX12_parentOf 8 = .ok (.iadd, 1) := by decide +kernel
theorem dX12_parentOf_9 : decode cX12_parentOf 9 = .ok (.iconst 2, 1) := by decide +kernel
theorem dX12_parentOf_10 : decode cX12_parentOf 10 = .ok (.iadd, 1) := by decide +kernel
theorem dX12_parentOf_11 : decode cX12_parentOf 11 = .ok (.iaload, 1) := by decide +kernel
theorem dX12_parentOf_12 : decode cX12_parentOf 12 = .ok (.ireturn, 1) := by decide +kernel
theorem dX12_endOf_0 : decode cX12_endOf 0 = .ok (.iload_n 1, 1) := by decide +kernel
theorem dX12_endOf_1 : decode cX12_endOf 1 = .ok (.iconst 1, 1) := by decide +kernel
theorem dX12_endOf_2 : decode cX12_endOf 2 = .ok (.iadd, 1) := by decide +kernel
theorem dX12_endOf_3 : decode cX12_endOf 3 = .ok (.istore_n 2, 1) := by decide +kernel
theorem dX12_endOf_4 : decode cX12_endOf 4 = .ok (.iload_n 2, 1) := by decide +kernel
theorem dX12_endOf_5 : decode cX12_endOf 5 = .ok (.aload_n 0, 1) := by decide +kernel
theorem dX12_endOf_6 : decode cX12_endOf 6 = .ok (.getfield 7, 3) := by decide +kernel
theorem dX12_endOf_9 : decode cX12_endOf 9 = .ok (.iconst 0, 1) := by decide +kernel
theorem dX12_endOf_10 : decode cX12_endOf 10 = .ok (.iaload, 1) := by decide +kernel
theorem dX12_endOf_11 : decode cX12_endOf 11 = .ok (.if_icmp .ge 18, 3) := by decide +kernel
theorem dX12_endOf_14 : decode cX12_endOf 14 = .ok (.aload_n 0, 1) := by decide +kernel
theorem dX12_endOf_15 : decode cX12_endOf 15 = .ok (.iload_n 2, 1) := by decide +kernel
theorem dX12_endOf_16 : decode cX12_endOf 16 = .ok (.invokevirtual 73, 3) := by decide +kernel
theorem dX12_endOf_19 : decode cX12_endOf 19 = .ok (.iload_n 1, 1) := by decide +kernel
theorem dX12_endOf_20 : decode cX12_endOf 20 = .ok (.if_icmp .lt 9, 3) := by decide +kernel
theorem dX12_endOf_23 : decode cX12_endOf 23 = .ok (.iinc 2 1, 3) := by decide +kernel
theorem dX12_endOf_26 : decode cX12_endOf 26 = .ok (.goto (-22), 3) := by decide +kernel
theorem dX12_endOf_29 : decode cX12_endOf 29 = .ok (.iload_n 2, 1) := by decide +kernel
theorem dX12_endOf_30 : decode cX12_endOf 30 = .ok (.ireturn, 1) := by decide +kernel
theorem dX12_opens_0 : decode cX12_opens 0 = .ok (.aload_n 0, 1) := by decide +kernel
theorem dX12_opens_1 : decode cX12_opens 1 = .ok (.getfield 7, 3) := by decide +kernel
theorem dX12_opens_4 : decode cX12_opens 4 = .ok (.iconst 0, 1) := by decide +kernel
theorem dX12_opens_5 : decode cX12_opens 5 = .ok (.iaload, 1) := by decide +kernel
theorem dX12_opens_6 : decode cX12_opens 6 = .ok (.iconst 1, 1) := by decide +kernel
theorem dX12_opens_7 : decode cX12_opens 7 = .ok (.isub, 1) := by decide +kernel
theorem dX12_opens_8 : decode cX12_opens 8 = .ok (.istore_n 3, 1) := by decide +kernel
theorem dX12_opens_9 : decode cX12_opens 9 = .ok (.iload_n 3, 1) := by decide +kernel
theorem dX12_opens_10 : decode cX12_opens 10 = .ok (.iload_n 1, 1) := by decide +kernel
theorem dX12_opens_11 : decode cX12_opens 11 = .ok (.if_icmp .lt 52, 3) := by decide +kernel
theorem dX12_opens_14 : decode cX12_opens 14 = .ok (.iconst 0, 1) := by decide +kernel
theorem dX12_opens_15 : decode cX12_opens 15 = .ok (.istore 4, 2) := by decide +kernel
theorem dX12_opens_17 : decode cX12_opens 17 = .ok (.iload 4, 2) := by decide +kernel
theorem dX12_opens_19 : decode cX12_opens 19 = .ok (.iconst 3, 1) := by decide +kernel
theorem dX12_opens_20 : decode cX12_opens 20 = .ok (.if_icmp .ge 37, 3) := by decide +kernel
theorem dX12_opens_23 : decode cX12_opens 23 = .ok (.aload_n 0, 1) := by decide +kernel
theorem dX12_opens_24 : decode cX12_opens 24 = .ok (.getfield 7, 3) := by decide +kernel
theorem dX12_opens_27 : decode cX12_opens 27 = .ok (.iconst 1, 1) := by decide +kernel
theorem dX12_opens_28 : decode cX12_opens 28 = .ok (.iconst 3, 1) := by decide +kernel
theorem dX12_opens_29 : decode cX12_opens 29 = .ok (.iload_n 3, 1) := by decide +kernel
theorem dX12_opens_30 : decode cX12_opens 30 = .ok (.iload_n 2, 1) := by decide +kernel
theorem dX12_opens_31 : decode cX12_opens 31 = .ok (.iadd, 1) := by decide +kernel
theorem dX12_opens_32 : decode cX12_opens 32 = .ok (.imul, 1) := by decide +kernel
theorem dX12_opens_33 : decode cX12_opens 33 = .ok (.iadd, 1) := by decide +kernel
theorem dX12_opens_34 : decode cX12_opens 34 = .ok (.iload 4, 2) := by decide +kernel
theorem dX12_opens_36 : decode cX12_opens 36 = .ok (.iadd, 1) := by decide +kernel
theorem dX12_opens_37 : decode cX12_opens 37 = .ok (.aload_n 0, 1) := by decide +kernel
theorem dX12_opens_38 : decode cX12_opens 38 = .ok (.getfield 7, 3) := by decide +kernel
theorem dX12_opens_41 : decode cX12_opens 41 = .ok (.iconst 1, 1) := by decide +kernel
theorem dX12_opens_42 : decode cX12_opens 42 = .ok (.iconst 3, 1) := by decide +kernel
theorem dX12_opens_43 : decode cX12_opens 43 = .ok (.iload_n 3, 1) := by decide +kernel
theorem dX12_opens_44 : decode cX12_opens 44 = .ok (.imul, 1) := by decide +kernel
theorem dX12_opens_45 : decode cX12_opens 45 = .ok (.iadd, 1) := by decide +kernel
theorem dX12_opens_46 : decode cX12_opens 46 = .ok (.iload 4, 2) := by decide +kernel
theorem dX12_opens_48 : decode cX12_opens 48 = .ok (.iadd, 1) := by decide +kernel
theorem dX12_opens_49 : decode cX12_opens 49 = .ok (.iaload, 1) := by decide +kernel
theorem dX12_opens_50 : decode cX12_opens 50 = .ok (.iastore, 1) := by decide +kernel
theorem dX12_opens_51 : decode cX12_opens 51 = .ok (.iinc 4 1, 3) := by decide +kernel
theorem dX12_opens_54 : decode cX12_opens 54 = .ok (.goto (-37), 3) := by decide +kernel
theorem dX12_opens_57 : decode cX12_opens 57 = .ok (.iinc 3 (-1), 3) := by decide +kernel
theorem dX12_opens_60 : decode cX12_opens 60 = .ok (.goto (-51), 3) := by decide +kernel
theorem dX12_opens_63 : decode cX12_opens 63 = .ok (.iload_n 1, 1) := by decide +kernel
theorem dX12_opens_64 : decode cX12_opens 64 = .ok (.iload_n 2, 1) := by decide +kernel
theorem dX12_opens_65 : decode cX12_opens 65 = .ok (.iadd, 1) := by decide +kernel
theorem dX12_opens_66 : decode cX12_opens 66 = .ok (.istore_n 3, 1) := by decide +kernel
theorem dX12_opens_67 : decode cX12_opens 67 = .ok (.iload_n 3, 1) := by decide +kernel
theorem dX12_opens_68 : decode cX12_opens 68 = .ok (.aload_n 0, 1) := by decide +kernel
theorem dX12_opens_69 : decode cX12_opens 69 = .ok (.getfield 7, 3) := by decide +kernel
theorem dX12_opens_72 : decode cX12_opens 72 = .ok (.iconst 0, 1) := by decide +kernel
theorem dX12_opens_73 : decode cX12_opens 73 = .ok (.iaload, 1) := by decide +kernel
theorem dX12_opens_74 : decode cX12_opens 74 = .ok (.iload_n 2, 1) := by decide +kernel
theorem dX12_opens_75 : decode cX12_opens 75 = .ok (.iadd, 1) := by decide +kernel
theorem dX12_opens_76 : decode cX12_opens 76 = .ok (.if_icmp .ge 38, 3) := by decide +kernel
theorem dX12_opens_79 : decode cX12_opens 79 = .ok (.aload_n 0, 1) := by decide +kernel
theorem dX12_opens_80 : decode cX12_opens 80 = .ok (.getfield 7, 3) := by decide +kernel
theorem dX12_opens_83 : decode cX12_opens 83 = .ok (.iconst 1, 1) := by decide +kernel
theorem dX12_opens_84 : decode cX12_opens 84 = .ok (.iconst 3, 1) := by decide +kernel
theorem dX12_opens_85 : decode cX12_opens 85 = .ok (.iload_n 3, 1) := by decide +kernel
theorem dX12_opens_86 : decode cX12_opens 86 = .ok (.imul, 1) := by decide +kernel
theorem dX12_opens_87 : decode cX12_opens 87 = .ok (.iadd, 1) := by decide +kernel
theorem dX12_opens_88 : decode cX12_opens 88 = .ok (.iconst 2, 1) := by decide +kernel
theorem dX12_opens_89 : decode cX12_opens 89 = .ok (.iadd, 1) := by decide +kernel
theorem dX12_opens_90 : decode cX12_opens 90 = .ok (.dup2, 1) := by decide +kernel
theorem dX12_opens_91 : decode cX12_opens 91 = .ok (.iaload, 1) := by decide +kernel
theorem dX12_opens_92 : decode cX12_opens 92 = .ok (.aload_n 0, 1) := by decide +kernel
theorem dX12_opens_93 : decode cX12_opens 93 = .ok (.iload_n 3, 1) := by decide +kernel
theorem dX12_opens_94 : decode cX12_opens 94 = .ok (.invokevirtual 73, 3) := by decide +kernel
theorem dX12_opens_97 : decode cX12_opens 97 = .ok (.iload_n 1, 1) := by decide +kernel
theorem dX12_opens_98 : decode cX12_opens 98 = .ok (.if_icmp .lt 7, 3) := by decide +kernel
theorem dX12_opens_101 : decode cX12_opens 101 = .ok (.iload_n 2, 1) := by decide +kernel
theorem dX12_opens_102 : decode cX12_opens 102 = .ok (.goto 4, 3) := by decide +kernel
theorem dX12_opens_105 : decode cX12_opens 105 = .ok (.iconst 0, 1) := by decide +kernel
theorem dX12_opens_106 : decode cX12_opens 106 = .ok (.iadd, 1) := by decide +kernel
theorem dX12_opens_107 : decode cX12_opens 107 = .ok (.iastore, 1) := by decide +kernel
theorem dX12_opens_108 : decode cX12_opens 108 = .ok (.iinc 3 1, 3) := by decide +kernel
theorem dX12_opens_111 : decode cX12_opens 111 = .ok (.goto (-44), 3) := by decide +kernel
theorem dX12_opens_114 : decode cX12_opens 114 = .ok (.aload_n 0, 1) := by decide +kernel
theorem dX12_opens_115 : decode cX12_opens 115 = .ok (.getfield 7, 3) := by decide +kernel
theorem dX12_opens_118 : decode cX12_opens 118 = .ok (.iconst 0, 1) := by decide +kernel
theorem dX12_opens_119 : decode cX12_opens 119 = .ok (.dup2, 1) := by decide +kernel
theorem dX12_opens_120 : decode cX12_opens 120 = .ok (.iaload, 1) := by decide +kernel
theorem dX12_opens_121 : decode cX12_opens 121 = .ok (.iload_n 2, 1) := by decide +kernel
theorem dX12_opens_122 : decode cX12_opens 122 = .ok (.iadd, 1) := by decide +kernel
theorem dX12_opens_123 : decode cX12_opens 123 = .ok (.iastore, 1) := by decide +kernel
theorem dX12_opens_124 : decode cX12_opens 124 = .ok (.return_, 1) := by decide +kernel
theorem dX12_shuts_0 : decode cX12_shuts 0 = .ok (.aload_n 0, 1) := by decide +kernel
theorem dX12_shuts_1 : decode cX12_shuts 1 = .ok (.getfield 7, 3) := by decide +kernel
theorem dX12_shuts_4 : decode cX12_shuts 4 = .ok (.iconst 0, 1) := by decide +kernel
theorem dX12_shuts_5 : decode cX12_shuts 5 = .ok (.dup2, 1) := by decide +kernel
theorem dX12_shuts_6 : decode cX12_shuts 6 = .ok (.iaload, 1) := by decide +kernel
theorem dX12_shuts_7 : decode cX12_shuts 7 = .ok (.iload_n 2, 1) := by decide +kernel
theorem dX12_shuts_8 : decode cX12_shuts 8 = .ok (.isub, 1) := by decide +kernel
theorem dX12_shuts_9 : decode cX12_shuts 9 = .ok (.iastore, 1) := by decide +kernel
theorem dX12_shuts_10 : decode cX12_shuts 10 = .ok (.iload_n 1, 1) := by decide +kernel
theorem dX12_shuts_11 : decode cX12_shuts 11 = .ok (.istore_n 3, 1) := by decide +kernel
theorem dX12_shuts_12 : decode cX12_shuts 12 = .ok (.iload_n 3, 1) := by decide +kernel
theorem dX12_shuts_13 : decode cX12_shuts 13 = .ok (.aload_n 0, 1) := by decide +kernel
theorem dX12_shuts_14 : decode cX12_shuts 14 = .ok (.getfield 7, 3) := by decide +kernel
theorem dX12_shuts_17 : decode cX12_shuts 17 = .ok (.iconst 0, 1) := by decide +kernel
theorem dX12_shuts_18 : decode cX12_shuts 18 = .ok (.iaload, 1) := by decide +kernel
theorem dX12_shuts_19 : decode cX12_shuts 19 = .ok (.if_icmp .ge 81, 3) := by decide +kernel
theorem dX12_shuts_22 : decode cX12_shuts 22 = .ok (.iconst 0, 1) := by decide +kernel
theorem dX12_shuts_23 : decode cX12_shuts 23 = .ok (.istore 4, 2) := by decide +kernel
theorem dX12_shuts_25 : decode cX12_shuts 25 = .ok (.iload 4, 2) := by decide +kernel
theorem dX12_shuts_27 : decode cX12_shuts 27 = .ok (.iconst 3, 1) := by decide +kernel
theorem dX12_shuts_28 : decode cX12_shuts 28 = .ok (.if_icmp .ge 37, 3) := by decide +kernel
theorem dX12_shuts_31 : decode cX12_shuts 31 = .ok (.aload_n 0, 1) := by decide +kernel
theorem dX12_shuts_32 : decode cX12_shuts 32 = .ok (.getfield 7, 3) := by decide +kernel
theorem dX12_shuts_35 : decode cX12_shuts 35 = .ok (.iconst 1, 1) := by decide +kernel
theorem dX12_shuts_36 : decode cX12_shuts 36 = .ok (.iconst 3, 1) := by decide +kernel
theorem dX12_shuts_37 : decode cX12_shuts 37 = .ok (.iload_n 3, 1) := by decide +kernel
theorem dX12_shuts_38 : decode cX12_shuts 38 = .ok (.imul, 1) := by decide +kernel
theorem dX12_shuts_39 : decode cX12_shuts 39 = .ok (.iadd, 1) := by decide +kernel
theorem dX12_shuts_40 : decode cX12_shuts 40 = .ok (.iload 4, 2) := by decide +kernel
theorem dX12_shuts_42 : decode cX12_shuts 42 = .ok (.iadd, 1) := by decide +kernel
theorem dX12_shuts_43 : decode cX12_shuts 43 = .ok (.aload_n 0, 1) := by decide +kernel
theorem dX12_shuts_44 : decode cX12_shuts 44 = .ok (.getfield 7, 3) := by decide +kernel
theorem dX12_shuts_47 : decode cX12_shuts 47 = .ok (.iconst 1, 1) := by decide +kernel
theorem dX12_shuts_48 : decode cX12_shuts 48 = .ok (.iconst 3, 1) := by decide +kernel
theorem dX12_shuts_49 : decode cX12_shuts 49 = .ok (.iload_n 3, 1) := by decide +kernel
theorem dX12_shuts_50 : decode cX12_shuts 50 = .ok (.iload_n 2, 1) := by decide +kernel
theorem dX12_shuts_51 : decode cX12_shuts 51 = .ok (.iadd, 1) := by decide +kernel
theorem dX12_shuts_52 : decode cX12_shuts 52 = .ok (.imul, 1) := by decide +kernel
theorem dX12_shuts_53 : decode cX12_shuts 53 = .ok (.iadd, 1) := by decide +kernel
theorem dX12_shuts_54 : decode cX12_shuts 54 = .ok (.iload 4, 2) := by decide +kernel
theorem dX12_shuts_56 : decode cX12_shuts 56 = .ok (.iadd, 1) := by decide +kernel
theorem dX12_shuts_57 : decode cX12_shuts 57 = .ok (.iaload, 1) := by decide +kernel
theorem dX12_shuts_58 : decode cX12_shuts 58 = .ok (.iastore, 1) := by decide +kernel
theorem dX12_shuts_59 : decode cX12_shuts 59 = .ok (.iinc 4 1, 3) := by decide +kernel
theorem dX12_shuts_62 : decode cX12_shuts 62 = .ok (.goto (-37), 3) := by decide +kernel
theorem dX12_shuts_65 : decode cX12_shuts 65 = .ok (.aload_n 0, 1) := by decide +kernel
theorem dX12_shuts_66 : decode cX12_shuts 66 = .ok (.getfield 7, 3) := by decide +kernel
theorem dX12_shuts_69 : decode cX12_shuts 69 = .ok (.iconst 1, 1) := by decide +kernel
theorem dX12_shuts_70 : decode cX12_shuts 70 = .ok (.iconst 3, 1) := by decide +kernel
theorem dX12_shuts_71 : decode cX12_shuts 71 = .ok (.iload_n 3, 1) := by decide +kernel
theorem dX12_shuts_72 : decode cX12_shuts 72 = .ok (.imul, 1) := by decide +kernel
theorem dX12_shuts_73 : decode cX12_shuts 73 = .ok (.iadd, 1) := by decide +kernel
theorem dX12_shuts_74 : decode cX12_shuts 74 = .ok (.iconst 2, 1) := by decide +kernel
theorem dX12_shuts_75 : decode cX12_shuts 75 = .ok (.iadd, 1) := by decide +kernel
theorem dX12_shuts_76 : decode cX12_shuts 76 = .ok (.dup2, 1) := by decide +kernel
theorem dX12_shuts_77 : decode cX12_shuts 77 = .ok (.iaload, 1) := by decide +kernel
theorem dX12_shuts_78 : decode cX12_shuts 78 = .ok (.aload_n 0, 1) := by decide +kernel
theorem dX12_shuts_79 : decode cX12_shuts 79 = .ok (.iload_n 3, 1) := by decide +kernel
theorem dX12_shuts_80 : decode cX12_shuts 80 = .ok (.invokevirtual 73, 3) := by decide +kernel
theorem dX12_shuts_83 : decode cX12_shuts 83 = .ok (.iload_n 1, 1) := by decide +kernel
theorem dX12_shuts_84 : decode cX12_shuts 84 = .ok (.if_icmp .lt 7, 3) := by decide +kernel
theorem dX12_shuts_87 : decode cX12_shuts 87 = .ok (.iload_n 2, 1) := by decide +kernel
theorem dX12_shuts_88 : decode cX12_shuts 88 = .ok (.goto 4, 3) := by decide +kernel
theorem dX12_shuts_91 : decode cX12_shuts 91 = .ok (.iconst 0, 1) := by decide +kernel
theorem dX12_shuts_92 : decode cX12_shuts 92 = .ok (.isub, 1) := by decide +kernel
theorem dX12_shuts_93 : decode cX12_shuts 93 = .ok (.iastore, 1) := by decide +kernel
theorem dX12_shuts_94 : decode cX12_shuts 94 = .ok (.iinc 3 1, 3) := by decide +kernel
theorem dX12_shuts_97 : decode cX12_shuts 97 = .ok (.goto (-85), 3) := by decide +kernel
theorem dX12_shuts_100 : decode cX12_shuts 100 = .ok (.return_, 1) := by decide +kernel
theorem dX12_isNamed_0 : decode cX12_isNamed 0 = .ok (.iload_n 0, 1) := by decide +kernel
theorem dX12_isNamed_1 : decode cX12_isNamed 1 = .ok (.iconst 0, 1) := by decide +kernel
theorem dX12_isNamed_2 : decode cX12_isNamed 2 = .ok (.bipush 7, 2) := by decide +kernel
theorem dX12_isNamed_4 : decode cX12_isNamed 4 = .ok (.invokestatic 69, 3) := by decide +kernel
theorem dX12_isNamed_7 : decode cX12_isNamed 7 = .ok (.ifCond .eq 17, 3) := by decide +kernel
theorem dX12_isNamed_10 : decode cX12_isNamed 10 = .ok (.iload_n 1, 1) := by decide +kernel
theorem dX12_isNamed_11 : decode cX12_isNamed 11 = .ok (.iconst 0, 1) := by decide +kernel
theorem dX12_isNamed_12 : decode cX12_isNamed 12 = .ok (.bipush 9, 2) := by decide +kernel
theorem dX12_isNamed_14 : decode cX12_isNamed 14 = .ok (.invokestatic 69, 3) := by decide +kernel
theorem dX12_isNamed_17 : decode cX12_isNamed 17 = .ok (.ifCond .eq 7, 3) := by decide +kernel
theorem dX12_isNamed_20 : decode cX12_isNamed 20 = .ok (.iconst 1, 1) := by decide +kernel
theorem dX12_isNamed_21 : decode cX12_isNamed 21 = .ok (.goto 4, 3) := by decide +kernel
theorem dX12_isNamed_24 : decode cX12_isNamed 24 = .ok (.iconst 0, 1) := by decide +kernel
theorem dX12_isNamed_25 : decode cX12_isNamed 25 = .ok (.ireturn, 1) := by decide +kernel
theorem dX12_setCells_0 : decode cX12_setCells 0 = .ok (.aload_n 0, 1) := by decide +kernel
theorem dX12_setCells_1 : decode cX12_setCells 1 = .ok (.getfield 7, 3) := by decide +kernel
theorem dX12_setCells_4 : decode cX12_setCells 4 = .ok (.iconst 1, 1) := by decide +kernel
theorem dX12_setCells_5 : decode cX12_setCells 5 = .ok (.iconst 3, 1) := by decide +kernel
theorem dX12_setCells_6 : decode cX12_setCells 6 = .ok (.iload_n 1, 1) := by decide +kernel
theorem dX12_setCells_7 : decode cX12_setCells 7 = .ok (.imul, 1) := by decide +kernel
theorem dX12_setCells_8 : decode cX12_setCells 8 = .ok (.iadd, 1) := by decide +kernel
theorem dX12_setCells_9 : decode cX12_setCells 9 = .ok (.iload_n 2, 1) := by decide +kernel
theorem dX12_setCells_10 : decode cX12_setCells 10 = .ok (.iastore, 1) := by decide +kernel
theorem dX12_setCells_11 : decode cX12_setCells 11 = .ok (.aload_n 0, 1) := by decide +kernel
theorem dX12_setCells_12 : decode cX12_setCells 12 = .ok (.getfield 7, 3) := by decide +kernel
theorem dX12_setCells_15 : decode cX12_setCells 15 = .ok (.iconst 1, 1) := by decide +kernel
theorem dX12_setCells_16 : decode cX12_setCells 16 = .ok (.iconst 3, 1) := by decide +kernel
theorem dX12_setCells_17 : decode cX12_setCells 17 = .ok (.iload_n 1, 1) := by decide +kernel
theorem dX12_setCells_18 : decode cX12_setCells 18 = .ok (.imul, 1) := by decide +kernel
theorem dX12_setCells_19 : decode cX12_setCells 19 = .ok (.iadd, 1) := by decide +kernel
theorem dX12_setCells_20 : decode cX12_setCells 20 = .ok (.iconst 1, 1) := by decide +kernel
theorem dX12_setCells_21 : decode cX12_setCells 21 = .ok (.iadd, 1) := by decide +kernel
theorem dX12_setCells_22 : decode cX12_setCells 22 = .ok (.iload_n 3, 1) := by decide +kernel
theorem dX12_setCells_23 : decode cX12_setCells 23 = .ok (.iastore, 1) := by decide +kernel
theorem dX12_setCells_24 : decode cX12_setCells 24 = .ok (.aload_n 0, 1) := by decide +kernel
theorem dX12_setCells_25 : decode cX12_setCells 25 = .ok (.getfield 7, 3) := by decide +kernel
theorem dX12_setCells_28 : decode cX12_setCells 28 = .ok (.iconst 1, 1) := by decide +kernel
theorem dX12_setCells_29 : decode cX12_setCells 29 = .ok (.iconst 3, 1) := by decide +kernel
theorem dX12_setCells_30 : decode cX12_setCells 30 = .ok (.iload_n 1, 1) := by decide +kernel
theorem dX12_setCells_31 : decode cX12_setCells 31 = .ok (.imul, 1) := by decide +kernel
theorem dX12_setCells_32 : decode cX12_setCells 32 = .ok (.iadd, 1) := by decide +kernel
theorem dX12_setCells_33 : decode cX12_setCells 33 = .ok (.iconst 2, 1) := by decide +kernel
theorem dX12_setCells_34 : decode cX12_setCells 34 = .ok (.iadd, 1) := by decide +kernel
theorem dX12_setCells_35 : decode cX12_setCells 35 = .ok (.iload 4, 2) := by decide +kernel
theorem dX12_setCells_37 : decode cX12_setCells 37 = .ok (.iastore, 1) := by decide +kernel
theorem dX12_setCells_38 : decode cX12_setCells 38 = .ok (.return_, 1) := by decide +kernel
theorem dX12_addNode_0 : decode cX12_addNode 0 = .ok (.aload_n 0, 1) := by decide +kernel
theorem dX12_addNode_1 : decode cX12_addNode 1 = .ok (.aload_n 0, 1) := by decide +kernel
theorem dX12_addNode_2 : decode cX12_addNode 2 = .ok (.iload_n 1, 1) := by decide +kernel
theorem dX12_addNode_3 : decode cX12_addNode 3 = .ok (.invokevirtual 77, 3) := by decide +kernel
theorem dX12_addNode_6 : decode cX12_addNode 6 = .ok (.ifCond .ne 7, 3) := by decide +kernel
theorem dX12_addNode_9 : decode cX12_addNode 9 = .ok (.iconst 1, 1) := by decide +kernel
theorem dX12_addNode_10 : decode cX12_addNode 10 = .ok (.goto 31, 3) := by decide +kernel
theorem dX12_addNode_13 : decode cX12_addNode 13 = .ok (.iload_n 2, 1) := by decide +kernel
theorem dX12_addNode_14 : decode cX12_addNode 14 = .ok (.iload_n 3, 1) := by decide +kernel
theorem dX12_addNode_15 : decode cX12_addNode 15 = .ok (.invokestatic 81, 3) := by decide +kernel
theorem dX12_addNode_18 : decode cX12_addNode 18 = .ok (.ifCond .ne 7, 3) := by decide +kernel
theorem dX12_addNode_21 : decode cX12_addNode 21 = .ok (.iconst 2, 1) := by decide +kernel
theorem dX12_addNode_22 : decode cX12_addNode 22 = .ok (.goto 19, 3) := by decide +kernel
theorem dX12_addNode_25 : decode cX12_addNode 25 = .ok (.aload_n 0, 1) := by decide +kernel
theorem dX12_addNode_26 : decode cX12_addNode 26 = .ok (.getfield 7, 3) := by decide +kernel
theorem dX12_addNode_29 : decode cX12_addNode 29 = .ok (.iconst 0, 1) := by decide +kernel
theorem dX12_addNode_30 : decode cX12_addNode 30 = .ok (.iaload, 1) := by decide +kernel
theorem dX12_addNode_31 : decode cX12_addNode 31 = .ok (.bipush 40, 2) := by decide +kernel
theorem dX12_addNode_33 : decode cX12_addNode 33 = .ok (.if_icmp .ne 7, 3) := by decide +kernel
theorem dX12_addNode_36 : decode cX12_addNode 36 = .ok (.iconst 3, 1) := by decide +kernel
theorem dX12_addNode_37 : decode cX12_addNode 37 = .ok (.goto 4, 3) := by decide +kernel
theorem dX12_addNode_40 : decode cX12_addNode 40 = .ok (.iconst 0, 1) := by decide +kernel
theorem dX12_addNode_41 : decode cX12_addNode 41 = .ok (.putfield 62, 3) := by decide +kernel
theorem dX12_addNode_44 : decode cX12_addNode 44 = .ok (.aload_n 0, 1) := by decide +kernel
theorem dX12_addNode_45 : decode cX12_addNode 45 = .ok (.getfield 62, 3) := by decide +kernel
theorem dX12_addNode_48 : decode cX12_addNode 48 = .ok (.ifCond .eq 5, 3) := by decide +kernel
theorem dX12_addNode_51 : decode cX12_addNode 51 = .ok (.iconst 0, 1) := by decide +kernel
theorem dX12_addNode_52 : decode cX12_addNode 52 = .ok (.ireturn, 1) := by decide +kernel
theorem dX12_addNode_53 : decode cX12_addNode 53 = .ok (.aload_n 0, 1) := by decide +kernel
theorem dX12_addNode_54 : decode cX12_addNode 54 = .ok (.invokevirtual 85, 3) := by decide +kernel
theorem dX12_addNode_57 : decode cX12_addNode 57 = .ok (.aload_n 0, 1) := by decide +kernel
theorem dX12_addNode_58 : decode cX12_addNode 58 = .ok (.iload_n 1, 1) := by decide +kernel
theorem dX12_addNode_59 : decode cX12_addNode 59 = .ok (.invokevirtual 88, 3) := by decide +kernel
theorem dX12_addNode_62 : decode cX12_addNode 62 = .ok (.istore 4, 2) := by decide +kernel
theorem dX12_addNode_64 : decode cX12_addNode 64 = .ok (.aload_n 0, 1) := by decide +kernel
theorem dX12_addNode_65 : decode cX12_addNode 65 = .ok (.iload 4, 2) := by decide +kernel
theorem dX12_addNode_67 : decode cX12_addNode 67 = .ok (.iconst 1, 1) := by decide +kernel
theorem dX12_addNode_68 : decode cX12_addNode 68 = .ok (.invokevirtual 91, 3) := by decide +kernel
theorem dX12_addNode_71 : decode cX12_addNode 71 = .ok (.aload_n 0, 1) := by decide +kernel
theorem dX12_addNode_72 : decode cX12_addNode 72 = .ok (.iload 4, 2) := by decide +kernel
theorem dX12_addNode_74 : decode cX12_addNode 74 = .ok (.iload_n 2, 1) := by decide +kernel
theorem dX12_addNode_75 : decode cX12_addNode 75 = .ok (.iload_n 3, 1) := by decide +kernel
theorem dX12_addNode_76 : decode cX12_addNode 76 = .ok (.iload_n 1, 1) := by decide +kernel
theorem dX12_addNode_77 : decode cX12_addNode 77 = .ok (.invokevirtual 95, 3) := by decide +kernel
theorem dX12_addNode_80 : decode cX12_addNode 80 = .ok (.iload 4, 2) := by decide +kernel
theorem dX12_addNode_82 : decode cX12_addNode 82 = .ok (.ireturn, 1) := by decide +kernel
theorem dX12_removeNode_0 : decode cX12_removeNode 0 = .ok (.aload_n 0, 1) := by decide +kernel
theorem dX12_removeNode_1 : decode cX12_removeNode 1 = .ok (.aload_n 0, 1) := by decide +kernel
theorem dX12_removeNode_2 : decode cX12_removeNode 2 = .ok (.iload_n 1, 1) := by decide +kernel
theorem dX12_removeNode_3 : decode cX12_removeNode 3 = .ok (.invokevirtual 77, 3) := by decide +kernel
theorem dX12_removeNode_6 : decode cX12_removeNode 6 = .ok (.ifCond .ne 7, 3) := by decide +kernel
theorem dX12_removeNode_9 : decode cX12_removeNode 9 = .ok (.iconst 1, 1) := by decide +kernel
theorem dX12_removeNode_10 : decode cX12_removeNode 10 = .ok (.goto 12, 3) := by decide +kernel
theorem dX12_removeNode_13 : decode cX12_removeNode 13 = .ok (.iload_n 1, 1) := by decide +kernel
theorem dX12_removeNode_14 : decode cX12_removeNode 14 = .ok (.ifCond .ne 7, 3) := by decide +kernel
theorem dX12_removeNode_17 : decode cX12_removeNode 17 = .ok (.iconst 2, 1) := by decide +kernel
theorem dX12_removeNode_18 : decode cX12_removeNode 18 = .ok (.goto 4, 3) := by decide +kernel
theorem dX12_removeNode_21 : decode cX12_removeNode 21 = .ok (.iconst 0, 1) := by decide +kernel
theorem dX12_removeNode_22 : decode cX12_removeNode 22 = .ok (.putfield 62, 3) := by decide +kernel
theorem dX12_removeNode_25 : decode cX12_removeNode 25 = .ok (.aload_n 0, 1) := by decide +kernel
theorem dX12_removeNode_26 : decode cX12_removeNode 26 = .ok (.getfield 62, 3) := by decide +kernel
theorem dX12_removeNode_29 : decode cX12_removeNode 29 = .ok (.ifCond .eq 5, 3) := by decide +kernel
theorem dX12_removeNode_32 : decode cX12_removeNode 32 = .ok (.iconst 0, 1) := by decide +kernel
theorem dX12_removeNode_33 : decode cX12_removeNode 33 = .ok (.ireturn, 1) := by decide +kernel
theorem dX12_removeNode_34 : decode cX12_removeNode 34 = .ok (.aload_n 0, 1) := by decide +kernel
theorem dX12_removeNode_35 : decode cX12_removeNode 35 = .ok (.invokevirtual 85, 3) := by decide +kernel
theorem dX12_removeNode_38 : decode cX12_removeNode 38 = .ok (.aload_n 0, 1) := by decide +kernel
theorem dX12_removeNode_39 : decode cX12_removeNode 39 = .ok (.iload_n 1, 1) := by decide +kernel
theorem dX12_removeNode_40 : decode cX12_removeNode 40 = .ok (.aload_n 0, 1) := by decide +kernel
theorem dX12_removeNode_41 : decode cX12_removeNode 41 = .ok (.iload_n 1, 1) := by decide +kernel
theorem dX12_removeNode_42 : decode cX12_removeNode 42 = .ok (.invokevirtual 88, 3) := by decide +kernel
theorem dX12_removeNode_45 : decode cX12_removeNode 45 = .ok (.iload_n 1, 1) := by decide +kernel
theorem dX12_removeNode_46 : decode cX12_removeNode 46 = .ok (.isub, 1) := by decide +kernel
theorem dX12_removeNode_47 : decode cX12_removeNode 47 = .ok (.invokevirtual 99, 3) := by decide +kernel
theorem dX12_removeNode_50 : decode cX12_removeNode 50 = .ok (.aload_n 0, 1) := by decide +kernel
theorem dX12_removeNode_51 : decode cX12_removeNode 51 = .ok (.getfield 7, 3) := by decide +kernel
theorem dX12_removeNode_54 : decode cX12_removeNode 54 = .ok (.iconst 0, 1) := by decide +kernel
theorem dX12_removeNode_55 : decode cX12_removeNode 55 = .ok (.iaload, 1) := by decide +kernel
theorem dX12_removeNode_56 : decode cX12_removeNode 56 = .ok (.ireturn, 1) := by decide +kernel
theorem dX12_moveNode_0 : decode cX12_moveNode 0 = .ok (.aload_n 0, 1) := by decide +kernel
theorem dX12_moveNode_1 : decode cX12_moveNode 1 = .ok (.aload_n 0, 1) := by decide +kernel
theorem dX12_moveNode_2 : decode cX12_moveNode 2 = .ok (.iload_n 1, 1) := by decide +kernel
theorem dX12_moveNode_3 : decode cX12_moveNode 3 = .ok (.invokevirtual 77, 3) := by decide +kernel
theorem dX12_moveNode_6 : decode cX12_moveNode 6 = .ok (.ifCond .eq 11, 3) := by decide +kernel
theorem dX12_moveNode_9 : decode cX12_moveNode 9 = .ok (.aload_n 0, 1) := by decide +kernel
theorem dX12_moveNode_10 : decode cX12_moveNode 10 = .ok (.iload_n 2, 1) := by decide +kernel
theorem dX12_moveNode_11 : decode cX12_moveNode 11 = .ok (.invokevirtual 77, 3) := by decide +kernel
theorem dX12_moveNode_14 : decode cX12_moveNode 14 = .ok (.ifCond .ne 7, 3) := by decide +kernel
theorem dX12_moveNode_17 : decode cX12_moveNode 17 = .ok (.iconst 1, 1) := by decide +kernel
theorem dX12_moveNode_18 : decode cX12_moveNode 18 = .ok (.goto 4, 3) := by decide +kernel
theorem dX12_moveNode_21 : decode cX12_moveNode 21 = .ok (.iconst 0, 1) := by decide +kernel
theorem dX12_moveNode_22 : decode cX12_moveNode 22 = .ok (.putfield 62, 3) := by decide +kernel
theorem dX12_moveNode_25 : decode cX12_moveNode 25 = .ok (.aload_n 0, 1) := by decide +kernel
theorem dX12_moveNode_26 : decode cX12_moveNode 26 = .ok (.getfield 62, 3) := by decide +kernel
