theorem dX0_init_0 : decode cX0_init 0 = .ok (.aload_n 0, 1) := by decide +kernel
theorem dX0_init_1 : decode cX0_init 1 = .ok (.invokespecial 3, 3) := by decide +kernel
theorem dX0_init_4 : decode cX0_init 4 = .ok (.aload_n 0, 1) := by decide +kernel
theorem dX0_init_5 : decode cX0_init 5 = .ok (.bipush 25, 2) := by decide +kernel
theorem dX0_init_7 : decode cX0_init 7 = .ok (.newarray .int, 2) := by decide +kernel
theorem dX0_init_9 : decode cX0_init 9 = .ok (.putfield 9, 3) := by decide +kernel
theorem dX0_init_12 : decode cX0_init 12 = .ok (.aload_n 0, 1) := by decide +kernel
theorem dX0_init_13 : decode cX0_init 13 = .ok (.bipush 25, 2) := by decide +kernel
theorem dX0_init_15 : decode cX0_init 15 = .ok (.newarray .int, 2) := by decide +kernel
theorem dX0_init_17 : decode cX0_init 17 = .ok (.putfield 15, 3) := by decide +kernel
theorem dX0_init_20 : decode cX0_init 20 = .ok (.return_, 1) := by decide +kernel
theorem dX0_weigh_0 : decode cX0_weigh 0 = .ok (.aload_n 1, 1) := by decide +kernel
theorem dX0_weigh_1 : decode cX0_weigh 1 = .ok (.aload_n 1, 1) := by decide +kernel
theorem dX0_weigh_2 : decode cX0_weigh 2 = .ok (.getfield 18, 3) := by decide +kernel
theorem dX0_weigh_5 : decode cX0_weigh 5 = .ok (.iload_n 3, 1) := by decide +kernel
theorem dX0_weigh_6 : decode cX0_weigh 6 = .ok (.invokevirtual 24, 3) := by decide +kernel
theorem dX0_weigh_9 : decode cX0_weigh 9 = .ok (.istore 5, 2) := by decide +kernel
theorem dX0_weigh_11 : decode cX0_weigh 11 = .ok (.aload_n 1, 1) := by decide +kernel
theorem dX0_weigh_12 : decode cX0_weigh 12 = .ok (.aload_n 1, 1) := by decide +kernel
theorem dX0_weigh_13 : decode cX0_weigh 13 = .ok (.getfield 18, 3) := by decide +kernel
theorem dX0_weigh_16 : decode cX0_weigh 16 = .ok (.iload 4, 2) := by decide +kernel
theorem dX0_weigh_18 : decode cX0_weigh 18 = .ok (.invokevirtual 24, 3) := by decide +kernel
theorem dX0_weigh_21 : decode cX0_weigh 21 = .ok (.istore 6, 2) := by decide +kernel
theorem dX0_weigh_23 : decode cX0_weigh 23 = .ok (.iconst 0, 1) := by decide +kernel
theorem dX0_weigh_24 : decode cX0_weigh 24 = .ok (.istore 7, 2) := by decide +kernel
theorem dX0_weigh_26 : decode cX0_weigh 26 = .ok (.iload 7, 2) := by decide +kernel
theorem dX0_weigh_28 : decode cX0_weigh 28 = .ok (.iconst 5, 1) := by decide +kernel
theorem dX0_weigh_29 : decode cX0_weigh 29 = .ok (.if_icmp .ge 105, 3) := by decide +kernel
theorem dX0_weigh_32 : decode cX0_weigh 32 = .ok (.iconst 0, 1) := by decide +kernel
theorem dX0_weigh_33 : decode cX0_weigh 33 = .ok (.istore 8, 2) := by decide +kernel
theorem dX0_weigh_35 : decode cX0_weigh 35 = .ok (.iload 8, 2) := by decide +kernel
theorem dX0_weigh_37 : decode cX0_weigh 37 = .ok (.iconst 5, 1) := by decide +kernel
theorem dX0_weigh_38 : decode cX0_weigh 38 = .ok (.if_icmp .ge 90, 3) := by decide +kernel
theorem dX0_weigh_41 : decode cX0_weigh 41 = .ok (.aload_n 2, 1) := by decide +kernel
theorem dX0_weigh_42 : decode cX0_weigh 42 = .ok (.aload_n 1, 1) := by decide +kernel
theorem dX0_weigh_43 : decode cX0_weigh 43 = .ok (.getfield 18, 3) := by decide +kernel
theorem dX0_weigh_46 : decode cX0_weigh 46 = .ok (.invokevirtual 28, 3) := by decide +kernel
theorem dX0_weigh_49 : decode cX0_weigh 49 = .ok (.aload_n 1, 1) := by decide +kernel
theorem dX0_weigh_50 : decode cX0_weigh 50 = .ok (.aload_n 2, 1) := by decide +kernel
theorem dX0_weigh_51 : decode cX0_weigh 51 = .ok (.iload 7, 2) := by decide +kernel
theorem dX0_weigh_53 : decode cX0_weigh 53 = .ok (.invokevirtual 34, 3) := by decide +kernel
theorem dX0_weigh_56 : decode cX0_weigh 56 = .ok (.aload_n 1, 1) := by decide +kernel
theorem dX0_weigh_57 : decode cX0_weigh 57 = .ok (.aload_n 2, 1) := by decide +kernel
theorem dX0_weigh_58 : decode cX0_weigh 58 = .ok (.iload 8, 2) := by decide +kernel
theorem dX0_weigh_60 : decode cX0_weigh 60 = .ok (.invokevirtual 34, 3) := by decide +kernel
theorem dX0_weigh_63 : decode cX0_weigh 63 = .ok (.aload_n 0, 1) := by decide +kernel
theorem dX0_weigh_64 : decode cX0_weigh 64 = .ok (.getfield 9, 3) := by decide +kernel
theorem dX0_weigh_67 : decode cX0_weigh 67 = .ok (.iload 7, 2) := by decide +kernel
theorem dX0_weigh_69 : decode cX0_weigh 69 = .ok (.iload 8, 2) := by decide +kernel
theorem dX0_weigh_71 : decode cX0_weigh 71 = .ok (.invokestatic 38, 3) := by decide +kernel
theorem dX0_weigh_74 : decode cX0_weigh 74 = .ok (.aload_n 1, 1) := by decide +kernel
theorem dX0_weigh_75 : decode cX0_weigh 75 = .ok (.aload_n 2, 1) := by decide +kernel
theorem dX0_weigh_76 : decode cX0_weigh 76 = .ok (.iload_n 3, 1) := by decide +kernel
theorem dX0_weigh_77 : decode cX0_weigh 77 = .ok (.invokevirtual 24, 3) := by decide +kernel
theorem dX0_weigh_80 : decode cX0_weigh 80 = .ok (.iload 5, 2) := by decide +kernel
theorem dX0_weigh_82 : decode cX0_weigh 82 = .ok (.isub, 1) := by decide +kernel
theorem dX0_weigh_83 : decode cX0_weigh 83 = .ok (.iload 7, 2) := by decide +kernel
theorem dX0_weigh_85 : decode cX0_weigh 85 = .ok (.invokestatic 42, 3) := by decide +kernel
theorem dX0_weigh_88 : decode cX0_weigh 88 = .ok (.isub, 1) := by decide +kernel
theorem dX0_weigh_89 : decode cX0_weigh 89 = .ok (.invokestatic 46, 3) := by decide +kernel
theorem dX0_weigh_92 : decode cX0_weigh 92 = .ok (.aload_n 0, 1) := by decide +kernel
theorem dX0_weigh_93 : decode cX0_weigh 93 = .ok (.getfield 15, 3) := by decide +kernel
theorem dX0_weigh_96 : decode cX0_weigh 96 = .ok (.iload 7, 2) := by decide +kernel
theorem dX0_weigh_98 : decode cX0_weigh 98 = .ok (.iload 8, 2) := by decide +kernel
theorem dX0_weigh_100 : decode cX0_weigh 100 = .ok (.invokestatic 38, 3) := by decide +kernel
theorem dX0_weigh_103 : decode cX0_weigh 103 = .ok (.aload_n 1, 1) := by decide +kernel
theorem dX0_weigh_104 : decode cX0_weigh 104 = .ok (.aload_n 2, 1) := by decide +kernel
theorem dX0_weigh_105 : decode cX0_weigh 105 = .ok (.iload 4, 2) := by decide +kernel
theorem dX0_weigh_107 : decode cX0_weigh 107 = .ok (.invokevirtual 24, 3) := by decide +kernel
theorem dX0_weigh_110 : decode cX0_weigh 110 = .ok (.iload 6, 2) := by decide +kernel
theorem dX0_weigh_112 : decode cX0_weigh 112 = .ok (.isub, 1) := by decide +kernel
theorem dX0_weigh_113 : decode cX0_weigh 113 = .ok (.iload 8, 2) := by decide +kernel
theorem dX0_weigh_115 : decode cX0_weigh 115 = .ok (.invokestatic 42, 3) := by decide +kernel
theorem dX0_weigh_118 : decode cX0_weigh 118 = .ok (.isub, 1) := by decide +kernel
theorem dX0_weigh_119 : decode cX0_weigh 119 = .ok (.invokestatic 46, 3) := by decide +kernel
theorem dX0_weigh_122 : decode cX0_weigh 122 = .ok (.iinc 8 1, 3) := by decide +kernel
theorem dX0_weigh_125 : decode cX0_weigh 125 = .ok (.goto (-90), 3) := by decide +kernel
theorem dX0_weigh_128 : decode cX0_weigh 128 = .ok (.iinc 7 1, 3) := by decide +kernel
theorem dX0_weigh_131 : decode cX0_weigh 131 = .ok (.goto (-105), 3) := by decide +kernel
theorem dX0_weigh_134 : decode cX0_weigh 134 = .ok (.return_, 1) := by decide +kernel
theorem dX0_rests_0 : decode cX0_rests 0 = .ok (.iconst 0, 1) := by decide +kernel
theorem dX0_rests_1 : decode cX0_rests 1 = .ok (.istore_n 3, 1) := by decide +kernel
theorem dX0_rests_2 : decode cX0_rests 2 = .ok (.iload_n 3, 1) := by decide +kernel
theorem dX0_rests_3 : decode cX0_rests 3 = .ok (.iconst 5, 1) := by decide +kernel
theorem dX0_rests_4 : decode cX0_rests 4 = .ok (.if_icmp .ge 65, 3) := by decide +kernel
theorem dX0_rests_7 : decode cX0_rests 7 = .ok (.aload_n 0, 1) := by decide +kernel
theorem dX0_rests_8 : decode cX0_rests 8 = .ok (.getfield 9, 3) := by decide +kernel
theorem dX0_rests_11 : decode cX0_rests 11 = .ok (.iload_n 3, 1) := by decide +kernel
theorem dX0_rests_12 : decode cX0_rests 12 = .ok (.iload_n 2, 1) := by decide +kernel
theorem dX0_rests_13 : decode cX0_rests 13 = .ok (.invokestatic 38, 3) := by decide +kernel
theorem dX0_rests_16 : decode cX0_rests 16 = .ok (.invokestatic 50, 3) := by decide +kernel
theorem dX0_rests_19 : decode cX0_rests 19 = .ok (.aload_n 0, 1) := by decide +kernel
theorem dX0_rests_20 : decode cX0_rests 20 = .ok (.getfield 9, 3) := by decide +kernel
theorem dX0_rests_23 : decode cX0_rests 23 = .ok (.iload_n 1, 1) := by decide +kernel
theorem dX0_rests_24 : decode cX0_rests 24 = .ok (.iload_n 2, 1) := by decide +kernel
theorem dX0_rests_25 : decode cX0_rests 25 = .ok (.invokestatic 38, 3) := by decide +kernel
theorem dX0_rests_28 : decode cX0_rests 28 = .ok (.invokestatic 50, 3) := by decide +kernel
theorem dX0_rests_31 : decode cX0_rests 31 = .ok (.if_icmp .gt 30, 3) := by decide +kernel
theorem dX0_rests_34 : decode cX0_rests 34 = .ok (.aload_n 0, 1) := by decide +kernel
theorem dX0_rests_35 : decode cX0_rests 35 = .ok (.getfield 15, 3) := by decide +kernel
theorem dX0_rests_38 : decode cX0_rests 38 = .ok (.iload_n 1, 1) := by decide +kernel
theorem dX0_rests_39 : decode cX0_rests 39 = .ok (.iload_n 3, 1) := by decide +kernel
theorem dX0_rests_40 : decode cX0_rests 40 = .ok (.invokestatic 38, 3) := by decide +kernel
theorem dX0_rests_43 : decode cX0_rests 43 = .ok (.invokestatic 50, 3) := by decide +kernel
theorem dX0_rests_46 : decode cX0_rests 46 = .ok (.aload_n 0, 1) := by decide +kernel
theorem dX0_rests_47 : decode cX0_rests 47 = .ok (.getfield 15, 3) := by decide +kernel
theorem dX0_rests_50 : decode cX0_rests 50 = .ok (.iload_n 1, 1) := by decide +kernel
theorem dX0_rests_51 : decode cX0_rests 51 = .ok (.iload_n 2, 1) := by decide +kernel
theorem dX0_rests_52 : decode cX0_rests 52 = .ok (.invokestatic 38, 3) := by decide +kernel
theorem dX0_rests_55 : decode cX0_rests 55 = .ok (.invokestatic 50, 3) := by decide +kernel
theorem dX0_rests_58 : decode cX0_rests 58 = .ok (.if_icmp .le 5, 3) := by decide +kernel
theorem dX0_rests_61 : decode cX0_rests 61 = .ok (.iconst 0, 1) := by decide +kernel
theorem dX0_rests_62 : decode cX0_rests 62 = .ok (.ireturn, 1) := by decide +kernel
theorem dX0_rests_63 : decode cX0_rests 63 = .ok (.iinc 3 1, 3) := by decide +kernel
theorem dX0_rests_66 : decode cX0_rests 66 = .ok (.goto (-64), 3) := by decide +kernel
theorem dX0_rests_69 : decode cX0_rests 69 = .ok (.iconst 1, 1) := by decide +kernel
theorem dX0_rests_70 : decode cX0_rests 70 = .ok (.ireturn, 1) := by decide +kernel
theorem dX0_place_0 : decode cX0_place 0 = .ok (.iload_n 0, 1) := by decide +kernel
theorem dX0_place_1 : decode cX0_place 1 = .ok (.iconst 5, 1) := by decide +kernel
theorem dX0_place_2 : decode cX0_place 2 = .ok (.imul, 1) := by decide +kernel
theorem dX0_place_3 : decode cX0_place 3 = .ok (.iload_n 1, 1) := by decide +kernel
theorem dX0_place_4 : decode cX0_place 4 = .ok (.iadd, 1) := by decide +kernel
theorem dX0_place_5 : decode cX0_place 5 = .ok (.ireturn, 1) := by decide +kernel
theorem dX0_toll_0 : decode cX0_toll 0 = .ok (.iload_n 0, 1) := by decide +kernel
theorem dX0_toll_1 : decode cX0_toll 1 = .ok (.iconst 4, 1) := by decide +kernel
theorem dX0_toll_2 : decode cX0_toll 2 = .ok (.if_icmp .ne 7, 3) := by decide +kernel
theorem dX0_toll_5 : decode cX0_toll 5 = .ok (.iconst 0, 1) := by decide +kernel
theorem dX0_toll_6 : decode cX0_toll 6 = .ok (.goto 4, 3) := by decide +kernel
theorem dX0_toll_9 : decode cX0_toll 9 = .ok (.iconst 2, 1) := by decide +kernel
theorem dX0_toll_10 : decode cX0_toll 10 = .ok (.ireturn, 1) := by decide +kernel
theorem dX1_init_0 : decode cX1_init 0 = .ok (.aload_n 0, 1) := by decide +kernel
theorem dX1_init_1 : decode cX1_init 1 = .ok (.invokespecial 3, 3) := by decide +kernel
theorem dX1_init_4 : decode cX1_init 4 = .ok (.aload_n 0, 1) := by decide +kernel
theorem dX1_init_5 : decode cX1_init 5 = .ok (.bipush 20, 2) := by decide +kernel
theorem dX1_init_7 : decode cX1_init 7 = .ok (.putfield 9, 3) := by decide +kernel
theorem dX1_init_10 : decode cX1_init 10 = .ok (.aload_n 0, 1) := by decide +kernel
theorem dX1_init_11 : decode cX1_init 11 = .ok (.iconst 0, 1) := by decide +kernel
theorem dX1_init_12 : decode cX1_init 12 = .ok (.putfield 15, 3) := by decide +kernel
theorem dX1_init_15 : decode cX1_init 15 = .ok (.aload_n 0, 1) := by decide +kernel
theorem dX1_init_16 : decode cX1_init 16 = .ok (.iconst 0, 1) := by decide +kernel
theorem dX1_init_17 : decode cX1_init 17 = .ok (.putfield 18, 3) := by decide +kernel
theorem dX1_init_20 : decode cX1_init 20 = .ok (.aload_n 0, 1) := by decide +kernel
theorem dX1_init_21 : decode cX1_init 21 = .ok (.bipush 7, 2) := by decide +kernel
theorem dX1_init_23 : decode cX1_init 23 = .ok (.newarray .int, 2) := by decide +kernel
theorem dX1_init_25 : decode cX1_init 25 = .ok (.putfield 21, 3) := by decide +kernel
theorem dX1_init_28 : decode cX1_init 28 = .ok (.aload_n 0, 1) := by decide +kernel
theorem dX1_init_29 : decode cX1_init 29 = .ok (.bipush 7, 2) := by decide +kernel
theorem dX1_init_31 : decode cX1_init 31 = .ok (.newarray .int, 2) := by decide +kernel
theorem dX1_init_33 : decode cX1_init 33 = .ok (.putfield 25, 3) := by decide +kernel
theorem dX1_init_36 : decode cX1_init 36 = .ok (.return_, 1) := by decide +kernel
theorem dX1_become_0 : decode cX1_become 0 = .ok (.aload_n 0, 1) := by decide +kernel
theorem dX1_become_1 : decode cX1_become 1 = .ok (.aload_n 1, 1) := by decide +kernel
theorem dX1_become_2 : decode cX1_become 2 = .ok (.getfield 9, 3) := by decide +kernel
theorem dX1_become_5 : decode cX1_become 5 = .ok (.putfield 9, 3) := by decide +kernel
theorem dX1_become_8 : decode cX1_become 8 = .ok (.aload_n 0, 1) := by decide +kernel
theorem dX1_become_9 : decode cX1_become 9 = .ok (.aload_n 1, 1) := by decide +kernel
theorem dX1_become_10 : decode cX1_become 10 = .ok (.getfield 15, 3) := by decide +kernel
theorem dX1_become_13 : decode cX1_become 13 = .ok (.putfield 15, 3) := by decide +kernel
theorem dX1_become_16 : decode cX1_become 16 = .ok (.aload_n 0, 1) := by decide +kernel
theorem dX1_become_17 : decode cX1_become 17 = .ok (.aload_n 1, 1) := by decide +kernel
theorem dX1_become_18 : decode cX1_become 18 = .ok (.getfield 18, 3) := by decide +kernel
theorem dX1_become_21 : decode cX1_become 21 = .ok (.putfield 18, 3) := by decide +kernel
theorem dX1_become_24 : decode cX1_become 24 = .ok (.aload_n 1, 1) := by decide +kernel
theorem dX1_become_25 : decode cX1_become 25 = .ok (.getfield 21, 3) := by decide +kernel
theorem dX1_become_28 : decode cX1_become 28 = .ok (.aload_n 0, 1) := by decide +kernel
theorem dX1_become_29 : decode cX1_become 29 = .ok (.getfield 21, 3) := by decide +kernel
theorem dX1_become_32 : decode cX1_become 32 = .ok (.invokestatic 28, 3) := by decide +kernel
theorem dX1_become_35 : decode cX1_become 35 = .ok (.aload_n 1, 1) := by decide +kernel
theorem dX1_become_36 : decode cX1_become 36 = .ok (.getfield 25, 3) := by decide +kernel
theorem dX1_become_39 : decode cX1_become 39 = .ok (.aload_n 0, 1) := by decide +kernel
theorem dX1_become_40 : decode cX1_become 40 = .ok (.getfield 25, 3) := by decide +kernel
theorem dX1_become_43 : decode cX1_become 43 = .ok (.invokestatic 28, 3) := by decide +kernel
theorem dX1_become_46 : decode cX1_become 46 = .ok (.return_, 1) := by decide +kernel
theorem dX1_begin_0 : decode cX1_begin 0 = .ok (.aload_n 0, 1) := by decide +kernel
theorem dX1_begin_1 : decode cX1_begin 1 = .ok (.iload_n 1, 1) := by decide +kernel
theorem dX1_begin_2 : decode cX1_begin 2 = .ok (.putfield 9, 3) := by decide +kernel
theorem dX1_begin_5 : decode cX1_begin 5 = .ok (.aload_n 0, 1) := by decide +kernel
theorem dX1_begin_6 : decode cX1_begin 6 = .ok (.iconst 0, 1) := by decide +kernel
theorem dX1_begin_7 : decode cX1_begin 7 = .ok (.putfield 15, 3) := by decide +kernel
theorem dX1_begin_10 : decode cX1_begin 10 = .ok (.aload_n 0, 1) := by decide +kernel
theorem dX1_begin_11 : decode cX1_begin 11 = .ok (.iconst 0, 1) := by decide +kernel
theorem dX1_begin_12 : decode cX1_begin 12 = .ok (.putfield 18, 3) := by decide +kernel
theorem dX1_begin_15 : decode cX1_begin 15 = .ok (.return_, 1) := by decide +kernel
theorem dX2_init_0 : decode cX2_init 0 = .ok (.aload_n 0, 1) := by decide +kernel
theorem dX2_init_1 : decode cX2_init 1 = .ok (.invokespecial 3, 3) := by decide +kernel
theorem dX2_init_4 : decode cX2_init 4 = .ok (.aload_n 0, 1) := by decide +kernel
theorem dX2_init_5 : decode cX2_init 5 = .ok (.bipush 7, 2) := by decide +kernel
theorem dX2_init_7 : decode cX2_init 7 = .ok (.newarray .int, 2) := by decide +kernel
theorem dX2_init_9 : decode cX2_init 9 = .ok (.putfield 9, 3) := by decide +kernel
theorem dX2_init_12 : decode cX2_init 12 = .ok (.aload_n 0, 1) := by decide +kernel
theorem dX2_init_13 : decode cX2_init 13 = .ok (.bipush 7, 2) := by decide +kernel
theorem dX2_init_15 : decode cX2_init 15 = .ok (.newarray .int, 2) := by decide +kernel
theorem dX2_init_17 : decode cX2_init 17 = .ok (.putfield 15, 3) := by decide +kernel
theorem dX2_init_20 : decode cX2_init 20 = .ok (.aload_n 0, 1) := by decide +kernel
theorem dX2_init_21 : decode cX2_init 21 = .ok (.bipush 7, 2) := by decide +kernel
theorem dX2_init_23 : decode cX2_init 23 = .ok (.newarray .int, 2) := by decide +kernel
theorem dX2_init_25 : decode cX2_init 25 = .ok (.putfield 18, 3) := by decide +kernel
theorem dX2_init_28 : decode cX2_init 28 = .ok (.aload_n 0, 1) := by decide +kernel
theorem dX2_init_29 : decode cX2_init 29 = .ok (.bipush 7, 2) := by decide +kernel
theorem dX2_init_31 : decode cX2_init 31 = .ok (.newarray .int, 2) := by decide +kernel
theorem dX2_init_33 : decode cX2_init 33 = .ok (.putfield 21, 3) := by decide +kernel
theorem dX2_init_36 : decode cX2_init 36 = .ok (.aload_n 0, 1) := by decide +kernel
theorem dX2_init_37 : decode cX2_init 37 = .ok (.iconst 0, 1) := by decide +kernel
theorem dX2_init_38 : decode cX2_init 38 = .ok (.putfield 24, 3) := by decide +kernel
theorem dX2_init_41 : decode cX2_init 41 = .ok (.aload_n 0, 1) := by decide +kernel
theorem dX2_init_42 : decode cX2_init 42 = .ok (.new 28, 3) := by decide +kernel
theorem dX2_init_45 : decode cX2_init 45 = .ok (.dup, 1) := by decide +kernel
theorem dX2_init_46 : decode cX2_init 46 = .ok (.invokespecial 30, 3) := by decide +kernel
theorem dX2_init_49 : decode cX2_init 49 = .ok (.putfield 31, 3) := by decide +kernel
theorem dX2_init_52 : decode cX2_init 52 = .ok (.aload_n 0, 1) := by decide +kernel
theorem dX2_init_53 : decode cX2_init 53 = .ok (.bipush 8, 2) := by decide +kernel
theorem dX2_init_55 : decode cX2_init 55 = .ok (.anewarray 28, 3) := by decide +kernel
theorem dX2_init_58 : decode cX2_init 58 = .ok (.putfield 35, 3) := by decide +kernel
theorem dX2_init_61 : decode cX2_init 61 = .ok (.aload_n 0, 1) := by decide +kernel
theorem dX2_init_62 : decode cX2_init 62 = .ok (.iconst 0, 1) := by decide +kernel
theorem dX2_init_63 : decode cX2_init 63 = .ok (.putfield 39, 3) := by decide +kernel
theorem dX2_init_66 : decode cX2_init 66 = .ok (.aload_n 0, 1) := by decide +kernel
theorem dX2_init_67 : decode cX2_init 67 = .ok (.iconst 0, 1) := by decide +kernel
theorem dX2_init_68 : decode cX2_init 68 = .ok (.putfield 42, 3) := by decide +kernel
theorem dX2_init_71 : decode cX2_init 71 = .ok (.aload_n 0, 1) := by decide +kernel
theorem dX2_init_72 : decode cX2_init 72 = .ok (.bipush 8, 2) := by decide +kernel
theorem dX2_init_74 : decode cX2_init 74 = .ok (.newarray .int, 2) := by decide +kernel
theorem dX2_init_76 : decode cX2_init 76 = .ok (.putfield 45, 3) := by decide +kernel
theorem dX2_init_79 : decode cX2_init 79 = .ok (.aload_n 0, 1) := by decide +kernel
theorem dX2_init_80 : decode cX2_init 80 = .ok (.bipush 8, 2) := by decide +kernel
theorem dX2_init_82 : decode cX2_init 82 = .ok (.newarray .int, 2) := by decide +kernel
theorem dX2_init_84 : decode cX2_init 84 = .ok (.putfield 48, 3) := by decide +kernel
theorem dX2_init_87 : decode cX2_init 87 = .ok (.aload_n 0, 1) := by decide +kernel
theorem dX2_init_88 : decode cX2_init 88 = .ok (.iconst 0, 1) := by decide +kernel
theorem dX2_init_89 : decode cX2_init 89 = .ok (.putfield 51, 3) := by decide +kernel
theorem dX2_init_92 : decode cX2_init 92 = .ok (.aload_n 0, 1) := by decide +kernel
theorem dX2_init_93 : decode cX2_init 93 = .ok (.new 54, 3) := by decide +kernel
theorem dX2_init_96 : decode cX2_init 96 = .ok (.dup, 1) := by decide +kernel
theorem dX2_init_97 : decode cX2_init 97 = .ok (.iconst 4, 1) := by decide +kernel
theorem dX2_init_98 : decode cX2_init 98 = .ok (.iconst 5, 1) := by decide +kernel
theorem dX2_init_99 : decode cX2_init 99 = .ok (.invokespecial 56, 3) := by decide +kernel
theorem dX2_init_102 : decode cX2_init 102 = .ok (.putfield 59, 3) := by decide +kernel
theorem dX2_init_105 : decode cX2_init 105 = .ok (.aload_n 0, 1) := by decide +kernel
theorem dX2_init_106 : decode cX2_init 106 = .ok (.new 54, 3) := by decide +kernel
theorem dX2_init_109 : decode cX2_init 109 = .ok (.dup, 1) := by decide +kernel
theorem dX2_init_110 : decode cX2_init 110 = .ok (.iconst 5, 1) := by decide +kernel
theorem dX2_init_111 : decode cX2_init 111 = .ok (.bipush 6, 2) := by decide +kernel
theorem dX2_init_113 : decode cX2_init 113 = .ok (.invokespecial 56, 3) := by decide +kernel
theorem dX2_init_116 : decode cX2_init 116 = .ok (.putfield 63, 3) := by decide +kernel
theorem dX2_init_119 : decode cX2_init 119 = .ok (.aload_n 0, 1) := by decide +kernel
theorem dX2_init_120 : decode cX2_init 120 = .ok (.new 54, 3) := by decide +kernel
theorem dX2_init_123 : decode cX2_init 123 = .ok (.dup, 1) := by decide +kernel
theorem dX2_init_124 : decode cX2_init 124 = .ok (.iconst 4, 1) := by decide +kernel
theorem dX2_init_125 : decode cX2_init 125 = .ok (.bipush 6, 2) := by decide +kernel
theorem dX2_init_127 : decode cX2_init 127 = .ok (.invokespecial 56, 3) := by decide +kernel
theorem dX2_init_130 : decode cX2_init 130 = .ok (.putfield 66, 3) := by decide +kernel
theorem dX2_init_133 : decode cX2_init 133 = .ok (.iconst 0, 1) := by decide +kernel
theorem dX2_init_134 : decode cX2_init 134 = .ok (.istore_n 1, 1) := by decide +kernel
theorem dX2_init_135 : decode cX2_init 135 = .ok (.iload_n 1, 1) := by decide +kernel
theorem dX2_init_136 : decode cX2_init 136 = .ok (.aload_n 0, 1) := by decide +kernel
theorem dX2_init_137 : decode cX2_init 137 = .ok (.getfield 35, 3) := by decide +kernel
theorem dX2_init_140 : decode cX2_init 140 = .ok (.arraylength, 1) := by decide +kernel
theorem dX2_init_141 : decode cX2_init 141 = .ok (.if_icmp .ge 22, 3) := by decide +kernel
theorem dX2_init_144 : decode cX2_init 144 = .ok (.aload_n 0, 1) := by decide +kernel
theorem dX2_init_145 : decode cX2_init 145 = .ok (.getfield 35, 3) := by decide +kernel
theorem dX2_init_148 : decode cX2_init 148 = .ok (.iload_n 1, 1) := by decide +kernel
theorem dX2_init_149 : decode cX2_init 149 = .ok (.new 28, 3) := by decide +kernel
theorem dX2_init_152 : decode cX2_init 152 = .ok (.dup, 1) := by decide +kernel
theorem dX2_init_153 : decode cX2_init 153 = .ok (.invokespecial 30, 3) := by decide +kernel
theorem dX2_init_156 : decode cX2_init 156 = .ok (.aastore, 1) := by decide +kernel
theorem dX2_init_157 : decode cX2_init 157 = .ok (.iinc 1 1, 3) := by decide +kernel
theorem dX2_init_160 : decode cX2_init 160 = .ok (.goto (-25), 3) := by decide +kernel
theorem dX2_init_163 : decode cX2_init 163 = .ok (.iconst 0, 1) := by decide +kernel
theorem dX2_init_164 : decode cX2_init 164 = .ok (.istore_n 1, 1) := by decide +kernel
theorem dX2_init_165 : decode cX2_init 165 = .ok (.iload_n 1, 1) := by decide +kernel
theorem dX2_init_166 : decode cX2_init 166 = .ok (.aload_n 0, 1) := by decide +kernel
theorem dX2_init_167 : decode cX2_init 167 = .ok (.getfield 45, 3) := by decide +kernel
theorem dX2_init_170 : decode cX2_init 170 = .ok (.arraylength, 1) := by decide +kernel
theorem dX2_init_171 : decode cX2_init 171 = .ok (.if_icmp .ge 16, 3) := by decide +kernel
theorem dX2_init_174 : decode cX2_init 174 = .ok (.aload_n 0, 1) := by decide +kernel
theorem dX2_init_175 : decode cX2_init 175 = .ok (.getfield 45, 3) := by decide +kernel
theorem dX2_init_178 : decode cX2_init 178 = .ok (.iload_n 1, 1) := by decide +kernel
theorem dX2_init_179 : decode cX2_init 179 = .ok (.iconst 4, 1) := by decide +kernel
theorem dX2_init_180 : decode cX2_init 180 = .ok (.iastore, 1) := by decide +kernel
theorem dX2_init_181 : decode cX2_init 181 = .ok (.iinc 1 1, 3) := by decide +kernel
theorem dX2_init_184 : decode cX2_init 184 = .ok (.goto (-19), 3) := by decide +kernel
theorem dX2_init_187 : decode cX2_init 187 = .ok (.return_, 1) := by decide +kernel
theorem dX2_begin_0 : decode cX2_begin 0 = .ok (.aload_n 0, 1) := by decide +kernel
theorem dX2_begin_1 : decode cX2_begin 1 = .ok (.iconst 0, 1) := by decide +kernel
theorem dX2_begin_2 : decode cX2_begin 2 = .ok (.putfield 24, 3) := by decide +kernel
theorem dX2_begin_5 : decode cX2_begin 5 = .ok (.aload_n 0, 1) := by decide +kernel
theorem dX2_begin_6 : decode cX2_begin 6 = .ok (.getfield 31, 3) := by decide +kernel
theorem dX2_begin_9 : decode cX2_begin 9 = .ok (.iload_n 1, 1) := by decide +kernel
theorem dX2_begin_10 : decode cX2_begin 10 = .ok (.invokevirtual 69, 3) := by decide +kernel
theorem dX2_begin_13 : decode cX2_begin 13 = .ok (.aload_n 0, 1) := by decide +kernel
theorem dX2_begin_14 : decode cX2_begin 14 = .ok (.iconst 0, 1) := by decide +kernel
theorem dX2_begin_15 : decode cX2_begin 15 = .ok (.putfield 42, 3) := by decide +kernel
theorem dX2_begin_18 : decode cX2_begin 18 = .ok (.iconst 0, 1) := by decide +kernel
theorem dX2_begin_19 : decode cX2_begin 19 = .ok (.istore_n 2, 1) := by decide +kernel
theorem dX2_begin_20 : decode cX2_begin 20 = .ok (.iload_n 2, 1) := by decide +kernel
theorem dX2_begin_21 : decode cX2_begin 21 = .ok (.bipush 8, 2) := by decide +kernel
theorem dX2_begin_23 : decode cX2_begin 23 = .ok (.if_icmp .ge 27, 3) := by decide +kernel
theorem dX2_begin_26 : decode cX2_begin 26 = .ok (.aload_n 0, 1) := by decide +kernel
theorem dX2_begin_27 : decode cX2_begin 27 = .ok (.getfield 45, 3) := by decide +kernel
theorem dX2_begin_30 : decode cX2_begin 30 = .ok (.iload_n 2, 1) := by decide +kernel
theorem dX2_begin_31 : decode cX2_begin 31 = .ok (.iconst 4, 1) := by decide +kernel
theorem dX2_begin_32 : decode cX2_begin 32 = .ok (.invokestatic 73, 3) := by decide +kernel
theorem dX2_begin_35 : decode cX2_begin 35 = .ok (.aload_n 0, 1) := by decide +kernel
theorem dX2_begin_36 : decode cX2_begin 36 = .ok (.getfield 48, 3) := by decide +kernel
theorem dX2_begin_39 : decode cX2_begin 39 = .ok (.iload_n 2, 1) := by decide +kernel
theorem dX2_begin_40 : decode cX2_begin 40 = .ok (.iconst 0, 1) := by decide +kernel
theorem dX2_begin_41 : decode cX2_begin 41 = .ok (.invokestatic 73, 3) := by decide +kernel
theorem dX2_begin_44 : decode cX2_begin 44 = .ok (.iinc 2 1, 3) := by decide +kernel
theorem dX2_begin_47 : decode cX2_begin 47 = .ok (.goto (-27), 3) := by decide +kernel
theorem dX2_begin_50 : decode cX2_begin 50 = .ok (.aload_n 0, 1) := by decide +kernel
theorem dX2_begin_51 : decode cX2_begin 51 = .ok (.iconst 0, 1) := by decide +kernel
theorem dX2_begin_52 : decode cX2_begin 52 = .ok (.putfield 51, 3) := by decide +kernel
theorem dX2_begin_55 : decode cX2_begin 55 = .ok (.aload_n 0, 1) := by decide +kernel
theorem dX2_begin_56 : decode cX2_begin 56 = .ok (.getfield 59, 3) := by decide +kernel
theorem dX2_begin_59 : decode cX2_begin 59 = .ok (.invokevirtual 77, 3) := by decide +kernel
theorem dX2_begin_62 : decode cX2_begin 62 = .ok (.pop, 1) := by decide +kernel
theorem dX2_begin_63 : decode cX2_begin 63 = .ok (.aload_n 0, 1) := by decide +kernel
theorem dX2_begin_64 : decode cX2_begin 64 = .ok (.getfield 63, 3) := by decide +kernel
theorem dX2_begin_67 : decode cX2_begin 67 = .ok (.invokevirtual 77, 3) := by decide +kernel
theorem dX2_begin_70 : decode cX2_begin 70 = .ok (.pop, 1) := by decide +kernel
theorem dX2_begin_71 : decode cX2_begin 71 = .ok (.aload_n 0, 1) := by decide +kernel
theorem dX2_begin_72 : decode cX2_begin 72 = .ok (.getfield 66, 3) := by decide +kernel
theorem dX2_begin_75 : decode cX2_begin 75 = .ok (.invokevirtual 77, 3) := by decide +kernel
theorem dX2_begin_78 : decode cX2_begin 78 = .ok (.pop, 1) := by decide +kernel
theorem dX2_begin_79 : decode cX2_begin 79 = .ok (.return_, 1) := by decide +kernel
theorem dX2_become_0 : decode cX2_become 0 = .ok (.aload_n 1, 1) := by decide +kernel
theorem dX2_become_1 : decode cX2_become 1 = .ok (.getfield 9, 3) := by decide +kernel
theorem dX2_become_4 : decode cX2_become 4 = .ok (.aload_n 0, 1) := by decide +kernel
theorem dX2_become_5 : decode cX2_become 5 = .ok (.getfield 9, 3) := by decide +kernel
theorem dX2_become_8 : decode cX2_become 8 = .ok (.invokestatic 81, 3) := by decide +kernel
theorem dX2_become_11 : decode cX2_become 11 = .ok (.aload_n 1, 1) := by decide +kernel
theorem dX2_become_12 : decode cX2_become 12 = .ok (.getfield 15, 3) := by decide +kernel
theorem dX2_become_15 : decode cX2_become 15 = .ok (.aload_n 0, 1) := by decide +kernel
theorem dX2_become_16 : decode cX2_become 16 = .ok (.getfield 15, 3) := by decide +kernel
theorem dX2_become_19 : decode cX2_become 19 = .ok (.invokestatic 81, 3) := by decide +kernel
theorem dX2_become_22 : decode cX2_become 22 = .ok (.aload_n 1, 1) := by decide +kernel
theorem dX2_become_23 : decode cX2_become 23 = .ok (.getfield 18, 3) := by decide +kernel
theorem dX2_become_26 : decode cX2_become 26 = .ok (.aload_n 0, 1) := by decide +kernel
theorem dX2_become_27 : decode cX2_become 27 = .ok (.getfield 18, 3) := by decide +kernel
theorem dX2_become_30 : decode cX2_become 30 = .ok (.invokestatic 81, 3) := by decide +kernel
theorem dX2_become_33 : decode cX2_become 33 = .ok (.aload_n 1, 1) := by decide +kernel
theorem dX2_become_34 : decode cX2_become 34 = .ok (.getfield 21, 3) := by decide +kernel
theorem dX2_become_37 : decode cX2_become 37 = .ok (.aload_n 0, 1) := by decide +kernel
theorem dX2_become_38 : decode cX2_become 38 = .ok (.getfield 21, 3) := by decide +kernel
theorem dX2_become_41 : decode cX2_become 41 = .ok (.invokestatic 81, 3) := by decide +kernel
theorem dX2_become_44 : decode cX2_become 44 = .ok (.aload_n 0, 1) := by decide +kernel
theorem dX2_become_45 : decode cX2_become 45 = .ok (.aload_n 1, 1) := by decide +kernel
theorem dX2_become_46 : decode cX2_become 46 = .ok (.getfield 24, 3) := by decide +kernel
theorem dX2_become_49 : decode cX2_become 49 = .ok (.putfield 24, 3) := by decide +kernel
theorem dX2_become_52 : decode cX2_become 52 = .ok (.aload_n 0, 1) := by decide +kernel
theorem dX2_become_53 : decode cX2_become 53 = .ok (.getfield 31, 3) := by decide +kernel
theorem dX2_become_56 : decode cX2_become 56 = .ok (.aload_n 1, 1) := by decide +kernel
theorem dX2_become_57 : decode cX2_become 57 = .ok (.getfield 31, 3) := by decide +kernel
theorem dX2_become_60 : decode cX2_become 60 = .ok (.invokevirtual 85, 3) := by decide +kernel
theorem dX2_become_63 : decode cX2_become 63 = .ok (.iconst 0, 1) := by decide +kernel
theorem dX2_become_64 : decode cX2_become 64 = .ok (.istore_n 2, 1) := by decide +kernel
theorem dX2_become_65 : decode cX2_become 65 = .ok (.iload_n 2, 1) := by decide +kernel
theorem dX2_become_66 : decode cX2_become 66 = .ok (.bipush 8, 2) := by decide +kernel
theorem dX2_become_68 : decode cX2_become 68 = .ok (.if_icmp .ge 22, 3) := by decide +kernel
theorem dX2_become_71 : decode cX2_become 71 = .ok (.aload_n 0, 1) := by decide +kernel
theorem dX2_become_72 : decode cX2_become 72 = .ok (.iload_n 2, 1) := by decide +kernel
theorem dX2_become_73 : decode cX2_become 73 = .ok (.invokevirtual 89, 3) := by decide +kernel
theorem dX2_become_76 : decode cX2_become 76 = .ok (.aload_n 1, 1) := by decide +kernel
theorem dX2_become_77 : decode cX2_become 77 = .ok (.iload_n 2, 1) := by decide +kernel
theorem dX2_become_78 : decode cX2_become 78 = .ok (.invokevirtual 89, 3) := by decide +kernel
theorem dX2_become_81 : decode cX2_become 81 = .ok (.invokevirtual 85, 3) := by decide +kernel
theorem dX2_become_84 : decode cX2_become 84 = .ok (.iinc 2 1, 3) := by decide +kernel
theorem dX2_become_87 : decode cX2_become 87 = .ok (.goto (-22), 3) := by decide +kernel
theorem dX2_become_90 : decode cX2_become 90 = .ok (.aload_n 0, 1) := by decide +kernel
theorem dX2_become_91 : decode cX2_become 91 = .ok (.aload_n 1, 1) := by decide +kernel
theorem dX2_become_92 : decode cX2_become 92 = .ok (.getfield 39, 3) := by decide +kernel
theorem dX2_become_95 : decode cX2_become 95 = .ok (.putfield 39, 3) := by decide +kernel
theorem dX2_become_98 : decode cX2_become 98 = .ok (.aload_n 0, 1) := by decide +kernel
theorem dX2_become_99 : decode cX2_become 99 = .ok (.aload_n 1, 1) := by decide +kernel
theorem dX2_become_100 : decode cX2_become 100 = .ok (.getfield 42, 3) := by decide +kernel
theorem dX2_become_103 : decode cX2_become 103 = .ok (.putfield 42, 3) := by decide +kernel
theorem dX2_become_106 : decode cX2_become 106 = .ok (.aload_n 1, 1) := by decide +kernel
theorem dX2_become_107 : decode cX2_become 107 = .ok (.getfield 45, 3) := by decide +kernel
theorem dX2_become_110 : decode cX2_become 110 = .ok (.aload_n 0, 1) := by decide +kernel
theorem dX2_become_111 : decode cX2_become 111 = .ok (.getfield 45, 3) := by decide +kernel
theorem dX2_become_114 : decode cX2_become 114 = .ok (.invokestatic 81, 3) := by decide +kernel
theorem dX2_become_117 : decode cX2_become 117 = .ok (.aload_n 1, 1) := by decide +kernel
theorem dX2_become_118 : decode cX2_become 118 = .ok (.getfield 48, 3) := by decide +kernel
theorem dX2_become_121 : decode cX2_become 121 = .ok (.aload_n 0, 1) := by decide +kernel
theorem dX2_become_122 : decode cX2_become 122 = .ok (.getfield 48, 3) := by decide +kernel
theorem dX2_become_125 : decode cX2_become 125 = .ok (.invokestatic 81, 3) := by decide +kernel
theorem dX2_become_128 : decode cX2_become 128 = .ok (.aload_n 0, 1) := by decide +kernel
theorem dX2_become_129 : decode cX2_become 129 = .ok (.aload_n 1, 1) := by decide +kernel
theorem dX2_become_130 : decode cX2_become 130 = .ok (.getfield 51, 3) := by decide +kernel
theorem dX2_become_133 : decode cX2_become 133 = .ok (.putfield 51, 3) := by decide +kernel
theorem dX2_become_136 : decode cX2_become 136 = .ok (.aload_n 0, 1) := by decide +kernel
theorem dX2_become_137 : decode cX2_become 137 = .ok (.getfield 59, 3) := by decide +kernel
theorem dX2_become_140 : decode cX2_become 140 = .ok (.aload_n 1, 1) := by decide +kernel
theorem dX2_become_141 : decode cX2_become 141 = .ok (.getfield 59, 3) := by decide +kernel
theorem dX2_become_144 : decode cX2_become 144 = .ok (.invokevirtual 93, 3) := by decide +kernel
theorem dX2_become_147 : decode cX2_become 147 = .ok (.aload_n 0, 1) := by decide +kernel
theorem dX2_become_148 : decode cX2_become 148 = .ok (.getfield 63, 3) := by decide +kernel
theorem dX2_become_151 : decode cX2_become 151 = .ok (.aload_n 1, 1) := by decide +kernel
theorem dX2_become_152 : decode cX2_become 152 = .ok (.getfield 63, 3) := by decide +kernel
theorem dX2_become_155 : decode cX2_become 155 = .ok (.invokevirtual 93, 3) := by decide +kernel
theorem dX2_become_158 : decode cX2_become 158 = .ok (.aload_n 0, 1) := by decide +kernel
theorem dX2_become_159 : decode cX2_become 159 = .ok (.getfield 66, 3) := by decide +kernel
theorem dX2_become_162 : decode cX2_become 162 = .ok (.aload_n 1, 1) := by decide +kernel
theorem dX2_become_163 : decode cX2_become 163 = .ok (.getfield 66, 3) := by decide +kernel
theorem dX2_become_166 : decode cX2_become 166 = .ok (.invokevirtual 93, 3) := by decide +kernel
theorem dX2_become_169 : decode cX2_become 169 = .ok (.return_, 1) := by decide +kernel
theorem dX2_add_0 : decode cX2_add 0 = .ok (.aload_n 0, 1) := by decide +kernel
theorem dX2_add_1 : decode cX2_add 1 = .ok (.getfield 24, 3) := by decide +kernel
theorem dX2_add_4 : decode cX2_add 4 = .ok (.istore 6, 2) := by decide +kernel
theorem dX2_add_6 : decode cX2_add 6 = .ok (.aload_n 0, 1) := by decide +kernel
theorem dX2_add_7 : decode cX2_add 7 = .ok (.getfield 9, 3) := by decide +kernel
theorem dX2_add_10 : decode cX2_add 10 = .ok (.iload 6, 2) := by decide +kernel
theorem dX2_add_12 : decode cX2_add 12 = .ok (.iload_n 1, 1) := by decide +kernel
theorem dX2_add_13 : decode cX2_add 13 = .ok (.invokestatic 73, 3) := by decide +kernel
theorem dX2_add_16 : decode cX2_add 16 = .ok (.aload_n 0, 1) := by decide +kernel
theorem dX2_add_17 : decode cX2_add 17 = .ok (.getfield 15, 3) := by decide +kernel
theorem dX2_add_20 : decode cX2_add 20 = .ok (.iload 6, 2) := by decide +kernel
theorem dX2_add_22 : decode cX2_add 22 = .ok (.iload_n 2, 1) := by decide +kernel
theorem dX2_add_23 : decode cX2_add 23 = .ok (.invokestatic 73, 3) := by decide +kernel
theorem dX2_add_26 : decode cX2_add 26 = .ok (.aload_n 0, 1) := by decide +kernel
theorem dX2_add_27 : decode cX2_add 27 = .ok (.getfield 18, 3) := by decide +kernel
theorem dX2_add_30 : decode cX2_add 30 = .ok (.iload 6, 2) := by decide +kernel
theorem dX2_add_32 : decode cX2_add 32 = .ok (.iload_n 3, 1) := by decide +kernel
theorem dX2_add_33 : decode cX2_add 33 = .ok (.invokestatic 73, 3) := by decide +kernel
theorem dX2_add_36 : decode cX2_add 36 = .ok (.aload_n 0, 1) := by decide +kernel
theorem dX2_add_37 : decode cX2_add 37 = .ok (.getfield 21, 3) := by decide +kernel
theorem dX2_add_40 : decode cX2_add 40 = .ok (.iload 6, 2) := by decide +kernel
theorem dX2_add_42 : decode cX2_add 42 = .ok (.iload 4, 2) := by decide +kernel
theorem dX2_add_44 : decode cX2_add 44 = .ok (.invokestatic 73, 3) := by decide +kernel
theorem dX2_add_47 : decode cX2_add 47 = .ok (.aload_n 0, 1) := by decide +kernel
theorem dX2_add_48 : decode cX2_add 48 = .ok (.getfield 31, 3) := by decide +kernel
theorem dX2_add_51 : decode cX2_add 51 = .ok (.getfield 96, 3) := by decide +kernel
theorem dX2_add_54 : decode cX2_add 54 = .ok (.iload 6, 2) := by decide +kernel
theorem dX2_add_56 : decode cX2_add 56 = .ok (.iload 5, 2) := by decide +kernel
theorem dX2_add_58 : decode cX2_add 58 = .ok (.invokestatic 73, 3) := by decide +kernel
theorem dX2_add_61 : decode cX2_add 61 = .ok (.aload_n 0, 1) := by decide +kernel
theorem dX2_add_62 : decode cX2_add 62 = .ok (.getfield 31, 3) := by decide +kernel
theorem dX2_add_65 : decode cX2_add 65 = .ok (.getfield 99, 3) := by decide +kernel
theorem dX2_add_68 : decode cX2_add 68 = .ok (.iload 6, 2) := by decide +kernel
theorem dX2_add_70 : decode cX2_add 70 = .ok (.iconst 0, 1) := by decide +kernel
theorem dX2_add_71 : decode cX2_add 71 = .ok (.invokestatic 73, 3) := by decide +kernel
theorem dX2_add_74 : decode cX2_add 74 = .ok (.aload_n 0, 1) := by decide +kernel
theorem dX2_add_75 : decode cX2_add 75 = .ok (.dup, 1) := by decide +kernel
theorem dX2_add_76 : decode cX2_add 76 = .ok (.getfield 24, 3) := by decide +kernel
theorem dX2_add_79 : decode cX2_add 79 = .ok (.iconst 1, 1) := by decide +kernel
theorem dX2_add_80 : decode cX2_add 80 = .ok (.iadd, 1) := by decide +kernel
theorem dX2_add_81 : decode cX2_add 81 = .ok (.putfield 24, 3) := by decide +kernel
theorem dX2_add_84 : decode cX2_add 84 = .ok (.aload_n 0, 1) := by decide +kernel
theorem dX2_add_85 : decode cX2_add 85 = .ok (.iconst 0, 1) := by decide +kernel
theorem dX2_add_86 : decode cX2_add 86 = .ok (.putfield 42, 3) := by decide +kernel
theorem dX2_add_89 : decode cX2_add 89 = .ok (.iload 6, 2) := by decide +kernel
theorem dX2_add_91 : decode cX2_add 91 = .ok (.ireturn, 1) := by decide +kernel
theorem dX2_weightOf_0 : decode cX2_weightOf 0 = .ok (.aload_n 0, 1) := by decide +kernel
theorem dX2_weightOf_1 : decode cX2_weightOf 1 = .ok (.getfield 18, 3) := by decide +kernel
theorem dX2_weightOf_4 : decode cX2_weightOf 4 = .ok (.iload_n 1, 1) := by decide +kernel
theorem dX2_weightOf_5 : decode cX2_weightOf 5 = .ok (.invokestatic 102, 3) := by decide +kernel
theorem dX2_weightOf_8 : decode cX2_weightOf 8 = .ok (.ireturn, 1) := by decide +kernel
theorem dX2_holeOf_0 : decode cX2_holeOf 0 = .ok (.aload_n 0, 1) := by decide +kernel
theorem dX2_holeOf_1 : decode cX2_holeOf 1 = .ok (.getfield 31, 3) := by decide +kernel
theorem dX2_holeOf_4 : decode cX2_holeOf 4 = .ok (.getfield 96, 3) := by decide +kernel
theorem dX2_holeOf_7 : decode cX2_holeOf 7 = .ok (.iload_n 1, 1) := by decide +kernel
theorem dX2_holeOf_8 : decode cX2_holeOf 8 = .ok (.invokestatic 102, 3) := by decide +kernel
theorem dX2_holeOf_11 : decode cX2_holeOf 11 = .ok (.ireturn, 1) := by decide +kernel
theorem dX2_wornOf_0 : decode cX2_wornOf 0 = .ok (.aload_n 0, 1) := by decide +kernel
theorem dX2_wornOf_1 : decode cX2_wornOf 1 = .ok (.getfield 31, 3) := by decide +kernel
theorem dX2_wornOf_4 : decode cX2_wornOf 4 = .ok (.getfield 99, 3) := by decide +kernel
theorem dX2_wornOf_7 : decode cX2_wornOf 7 = .ok (.iload_n 1, 1) := by decide +kernel
theorem dX2_wornOf_8 : decode cX2_wornOf 8 = .ok (.invokestatic 102, 3) := by decide +kernel
theorem dX2_wornOf_11 : decode cX2_wornOf 11 = .ok (.ireturn, 1) := by decide +kernel
theorem dX2_step_0 : decode cX2_step 0 = .ok (.aload_n 1, 1) := by decide +kernel
theorem dX2_step_1 : decode cX2_step 1 = .ok (.aload_n 1, 1) := by decide +kernel
theorem dX2_step_2 : decode cX2_step 2 = .ok (.getfield 106, 3) := by decide +kernel
theorem dX2_step_5 : decode cX2_step 5 = .ok (.iload_n 2, 1) := by decide +kernel
theorem dX2_step_6 : decode cX2_step 6 = .ok (.invokestatic 109, 3) := by decide +kernel
theorem dX2_step_9 : decode cX2_step 9 = .ok (.putfield 106, 3) := by decide +kernel
theorem dX2_step_12 : decode cX2_step 12 = .ok (.aload_n 1, 1) := by decide +kernel
theorem dX2_step_13 : decode cX2_step 13 = .ok (.aload_n 1, 1) := by decide +kernel
theorem dX2_step_14 : decode cX2_step 14 = .ok (.getfield 113, 3) := by decide +kernel
theorem dX2_step_17 : decode cX2_step 17 = .ok (.iload_n 2, 1) := by decide +kernel
theorem dX2_step_18 : decode cX2_step 18 = .ok (.invokestatic 116, 3) := by decide +kernel
theorem dX2_step_21 : decode cX2_step 21 = .ok (.putfield 113, 3) := by decide +kernel
theorem dX2_step_24 : decode cX2_step 24 = .ok (.aload_n 1, 1) := by decide +kernel
theorem dX2_step_25 : decode cX2_step 25 = .ok (.dup, 1) := by decide +kernel
theorem dX2_step_26 : decode cX2_step 26 = .ok (.getfield 119, 3) := by decide +kernel
theorem dX2_step_29 : decode cX2_step 29 = .ok (.iconst 1, 1) := by decide +kernel
theorem dX2_step_30 : decode cX2_step 30 = .ok (.iadd, 1) := by decide +kernel
theorem dX2_step_31 : decode cX2_step 31 = .ok (.putfield 119, 3) := by decide +kernel
theorem dX2_step_34 : decode cX2_step 34 = .ok (.iconst 0, 1) := by decide +kernel
theorem dX2_step_35 : decode cX2_step 35 = .ok (.istore_n 3, 1) := by decide +kernel
theorem dX2_step_36 : decode cX2_step 36 = .ok (.iload_n 3, 1) := by decide +kernel
theorem dX2_step_37 : decode cX2_step 37 = .ok (.aload_n 0, 1) := by decide +kernel
theorem dX2_step_38 : decode cX2_step 38 = .ok (.getfield 24, 3) := by decide +kernel
theorem dX2_step_41 : decode cX2_step 41 = .ok (.if_icmp .ge 37, 3) := by decide +kernel
theorem dX2_step_44 : decode cX2_step 44 = .ok (.aload_n 1, 1) := by decide +kernel
theorem dX2_step_45 : decode cX2_step 45 = .ok (.getfield 99, 3) := by decide +kernel
theorem dX2_step_48 : decode cX2_step 48 = .ok (.iload_n 3, 1) := by decide +kernel
theorem dX2_step_49 : decode cX2_step 49 = .ok (.aload_n 1, 1) := by decide +kernel
theorem dX2_step_50 : decode cX2_step 50 = .ok (.getfield 99, 3) := by decide +kernel
theorem dX2_step_53 : decode cX2_step 53 = .ok (.iload_n 3, 1) := by decide +kernel
theorem dX2_step_54 : decode cX2_step 54 = .ok (.invokestatic 102, 3) := by decide +kernel
theorem dX2_step_57 : decode cX2_step 57 = .ok (.aload_n 0, 1) := by decide +kernel
theorem dX2_step_58 : decode cX2_step 58 = .ok (.iload_n 3, 1) := by decide +kernel
theorem dX2_step_59 : decode cX2_step 59 = .ok (.invokevirtual 122, 3) := by decide +kernel
theorem dX2_step_62 : decode cX2_step 62 = .ok (.aload_n 1, 1) := by decide +kernel
theorem dX2_step_63 : decode cX2_step 63 = .ok (.getfield 113, 3) := by decide +kernel
theorem dX2_step_66 : decode cX2_step 66 = .ok (.invokestatic 126, 3) := by decide +kernel
theorem dX2_step_69 : decode cX2_step 69 = .ok (.invokestatic 73, 3) := by decide +kernel
theorem dX2_step_72 : decode cX2_step 72 = .ok (.iinc 3 1, 3) := by decide +kernel
theorem dX2_step_75 : decode cX2_step 75 = .ok (.goto (-39), 3) := by decide +kernel
theorem dX2_step_78 : decode cX2_step 78 = .ok (.return_, 1) := by decide +kernel
theorem dX2_snappedIn_0 : decode cX2_snappedIn 0 = .ok (.iconst 0, 1) := by decide +kernel
theorem dX2_snappedIn_1 : decode cX2_snappedIn 1 = .ok (.istore_n 2, 1) := by decide +kernel
theorem dX2_snappedIn_2 : decode cX2_snappedIn 2 = .ok (.iconst 0, 1) := by decide +kernel
theorem dX2_snappedIn_3 : decode cX2_snappedIn 3 = .ok (.istore_n 3, 1) := by decide +kernel
theorem dX2_snappedIn_4 : decode cX2_snappedIn 4 = .ok (.iload_n 3, 1) := by decide +kernel
theorem dX2_snappedIn_5 : decode cX2_snappedIn 5 = .ok (.aload_n 0, 1) := by decide +kernel
theorem dX2_snappedIn_6 : decode cX2_snappedIn 6 = .ok (.getfield 24, 3) := by decide +kernel
theorem dX2_snappedIn_9 : decode cX2_snappedIn 9 = .ok (.if_icmp .ge 26, 3) := by decide +kernel
theorem dX2_snappedIn_12 : decode cX2_snappedIn 12 = .ok (.aload_n 1, 1) := by decide +kernel
theorem dX2_snappedIn_13 : decode cX2_snappedIn 13 = .ok (.getfield 99, 3) := by decide +kernel
theorem dX2_snappedIn_16 : decode cX2_snappedIn 16 = .ok (.iload_n 3, 1) := by decide +kernel
theorem dX2_snappedIn_17 : decode cX2_snappedIn 17 = .ok (.invokestatic 102, 3) := by decide +kernel
theorem dX2_snappedIn_20 : decode cX2_snappedIn 20 = .ok (.invokestatic 130, 3) := by decide +kernel
theorem dX2_snappedIn_23 : decode cX2_snappedIn 23 = .ok (.ifCond .eq 6, 3) := by decide +kernel
theorem dX2_snappedIn_26 : decode cX2_snappedIn 26 = .ok (.iinc 2 1, 3) := by decide +kernel
theorem dX2_snappedIn_29 : decode cX2_snappedIn 29 = .ok (.iinc 3 1, 3) := by decide +kernel
theorem dX2_snappedIn_32 : decode cX2_snappedIn 32 = .ok (.goto (-28), 3) := by decide +kernel
theorem dX2_snappedIn_35 : decode cX2_snappedIn 35 = .ok (.iload_n 2, 1) := by decide +kernel
theorem dX2_snappedIn_36 : decode cX2_snappedIn 36 = .ok (.ireturn, 1) := by decide +kernel
theorem dX2_wornTogether_0 : decode cX2_wornTogether 0 = .ok (.iconst 0, 1) := by decide +kernel
theorem dX2_wornTogether_1 : decode cX2_wornTogether 1 = .ok (.istore_n 1, 1) := by decide +kernel
theorem dX2_wornTogether_2 : decode cX2_wornTogether 2 = .ok (.iconst 0, 1) := by decide +kernel
theorem dX2_wornTogether_3 : decode cX2_wornTogether 3 = .ok (.istore_n 2, 1) := by decide +kernel
theorem dX2_wornTogether_4 : decode cX2_wornTogether 4 = .ok (.iload_n 2, 1) := by decide +kernel
theorem dX2_wornTogether_5 : decode cX2_wornTogether 5 = .ok (.aload_n 0, 1) := by decide +kernel
theorem dX2_wornTogether_6 : decode cX2_wornTogether 6 = .ok (.getfield 24, 3) := by decide +kernel
theorem dX2_wornTogether_9 : decode cX2_wornTogether 9 = .ok (.if_icmp .ge 17, 3) := by decide +kernel
theorem dX2_wornTogether_12 : decode cX2_wornTogether 12 = .ok (.iload_n 1, 1) := by decide +kernel
theorem dX2_wornTogether_13 : decode cX2_wornTogether 13 = .ok (.aload_n 0, 1) := by decide +kernel
theorem dX2_wornTogether_14 : decode cX2_wornTogether 14 = .ok (.iload_n 2, 1) := by decide +kernel
theorem dX2_wornTogether_15 : decode cX2_wornTogether 15 = .ok (.invokevirtual 134, 3) := by decide +kernel
theorem dX2_wornTogether_18 : decode cX2_wornTogether 18 = .ok (.iadd, 1) := by decide +kernel
theorem dX2_wornTogether_19 : decode cX2_wornTogether 19 = .ok (.istore_n 1, 1) := by decide +kernel
theorem dX2_wornTogether_20 : decode cX2_wornTogether 20 = .ok (.iinc 2 1, 3) := by decide +kernel
theorem dX2_wornTogether_23 : decode cX2_wornTogether 23 = .ok (.goto (-19), 3) := by decide +kernel
theorem dX2_wornTogether_26 : decode cX2_wornTogether 26 = .ok (.iload_n 1, 1) := by decide +kernel
theorem dX2_wornTogether_27 : decode cX2_wornTogether 27 = .ok (.ireturn, 1) := by decide +kernel
theorem dX2_highIn_0 : decode cX2_highIn 0 = .ok (.aload_n 1, 1) := by decide +kernel
theorem dX2_highIn_1 : decode cX2_highIn 1 = .ok (.getfield 106, 3) := by decide +kernel
theorem dX2_highIn_4 : decode cX2_highIn 4 = .ok (.aload_n 1, 1) := by decide +kernel
theorem dX2_highIn_5 : decode cX2_highIn 5 = .ok (.getfield 113, 3) := by decide +kernel
theorem dX2_highIn_8 : decode cX2_highIn 8 = .ok (.aload_n 1, 1) := by decide +kernel
theorem dX2_highIn_9 : decode cX2_highIn 9 = .ok (.getfield 96, 3) := by decide +kernel
theorem dX2_highIn_12 : decode cX2_highIn 12 = .ok (.iload_n 2, 1) := by decide +kernel
theorem dX2_highIn_13 : decode cX2_highIn 13 = .ok (.invokestatic 102, 3) := by decide +kernel
theorem dX2_highIn_16 : decode cX2_highIn 16 = .ok (.invokestatic 137, 3) := by decide +kernel
theorem dX2_highIn_19 : decode cX2_highIn 19 = .ok (.istore_n 3, 1) := by decide +kernel
theorem dX2_highIn_20 : decode cX2_highIn 20 = .ok (.aload_n 0, 1) := by decide +kernel
theorem dX2_highIn_21 : decode cX2_highIn 21 = .ok (.iload_n 2, 1) := by decide +kernel
theorem dX2_highIn_22 : decode cX2_highIn 22 = .ok (.iload_n 3, 1) := by decide +kernel
theorem dX2_highIn_23 : decode cX2_highIn 23 = .ok (.aload_n 1, 1) := by decide +kernel
theorem dX2_highIn_24 : decode cX2_highIn 24 = .ok (.getfield 99, 3) := by decide +kernel
theorem dX2_highIn_27 : decode cX2_highIn 27 = .ok (.iload_n 2, 1) := by decide +kernel
theorem dX2_highIn_28 : decode cX2_highIn 28 = .ok (.invokestatic 102, 3) := by decide +kernel
theorem dX2_highIn_31 : decode cX2_highIn 31 = .ok (.aload_n 1, 1) := by decide +kernel
theorem dX2_highIn_32 : decode cX2_highIn 32 = .ok (.getfield 119, 3) := by decide +kernel
theorem dX2_highIn_35 : decode cX2_highIn 35 = .ok (.invokevirtual 140, 3) := by decide +kernel
theorem dX2_highIn_38 : decode cX2_highIn 38 = .ok (.ireturn, 1) := by decide +kernel
theorem dX2_highFrom_0 : decode cX2_highFrom 0 = .ok (.iload_n 3, 1) := by decide +kernel
theorem dX2_highFrom_1 : decode cX2_highFrom 1 = .ok (.invokestatic 130, 3) := by decide +kernel
theorem dX2_highFrom_4 : decode cX2_highFrom 4 = .ok (.ifCond .eq 6, 3) := by decide +kernel
theorem dX2_highFrom_7 : decode cX2_highFrom 7 = .ok (.bipush (-20), 2) := by decide +kernel
theorem dX2_highFrom_9 : decode cX2_highFrom 9 = .ok (.ireturn, 1) := by decide +kernel
theorem dX2_highFrom_10 : decode cX2_highFrom 10 = .ok (.aload_n 0, 1) := by decide +kernel
theorem dX2_highFrom_11 : decode cX2_highFrom 11 = .ok (.getfield 15, 3) := by decide +kernel
theorem dX2_highFrom_14 : decode cX2_highFrom 14 = .ok (.iload_n 1, 1) := by decide +kernel
theorem dX2_highFrom_15 : decode cX2_highFrom 15 = .ok (.invokestatic 102, 3) := by decide +kernel
theorem dX2_highFrom_18 : decode cX2_highFrom 18 = .ok (.aload_n 0, 1) := by decide +kernel
theorem dX2_highFrom_19 : decode cX2_highFrom 19 = .ok (.getfield 21, 3) := by decide +kernel
theorem dX2_highFrom_22 : decode cX2_highFrom 22 = .ok (.iload_n 1, 1) := by decide +kernel
theorem dX2_highFrom_23 : decode cX2_highFrom 23 = .ok (.invokestatic 102, 3) := by decide +kernel
theorem dX2_highFrom_26 : decode cX2_highFrom 26 = .ok (.aload_n 0, 1) := by decide +kernel
theorem dX2_highFrom_27 : decode cX2_highFrom 27 = .ok (.getfield 18, 3) := by decide +kernel
theorem dX2_highFrom_30 : decode cX2_highFrom 30 = .ok (.iload_n 1, 1) := by decide +kernel
theorem dX2_highFrom_31 : decode cX2_highFrom 31 = .ok (.invokestatic 102, 3) := by decide +kernel
theorem dX2_highFrom_34 : decode cX2_highFrom 34 = .ok (.iload_n 3, 1) := by decide +kernel
theorem dX2_highFrom_35 : decode cX2_highFrom 35 = .ok (.invokestatic 144, 3) := by decide +kernel
theorem dX2_highFrom_38 : decode cX2_highFrom 38 = .ok (.istore 5, 2) := by decide +kernel
theorem dX2_highFrom_40 : decode cX2_highFrom 40 = .ok (.aload_n 0, 1) := by decide +kernel
theorem dX2_highFrom_41 : decode cX2_highFrom 41 = .ok (.getfield 9, 3) := by decide +kernel
theorem dX2_highFrom_44 : decode cX2_highFrom 44 = .ok (.iload_n 1, 1) := by decide +kernel
theorem dX2_highFrom_45 : decode cX2_highFrom 45 = .ok (.invokestatic 102, 3) := by decide +kernel
theorem dX2_highFrom_48 : decode cX2_highFrom 48 = .ok (.iload_n 2, 1) := by decide +kernel
theorem dX2_highFrom_49 : decode cX2_highFrom 49 = .ok (.iload 5, 2) := by decide +kernel
theorem dX2_highFrom_51 : decode cX2_highFrom 51 = .ok (.isub, 1) := by decide +kernel
theorem dX2_highFrom_52 : decode cX2_highFrom 52 = .ok (.iload 4, 2) := by decide +kernel
theorem dX2_highFrom_54 : decode cX2_highFrom 54 = .ok (.invokestatic 147, 3) := by decide +kernel
theorem dX2_highFrom_57 : decode cX2_highFrom 57 = .ok (.ireturn, 1) := by decide +kernel
theorem dX2_tellOf_0 : decode cX2_tellOf 0 = .ok (.iload_n 2, 1) := by decide +kernel
theorem dX2_tellOf_1 : decode cX2_tellOf 1 = .ok (.tableswitch 105 0 6 #[43, 52, 61, 67, 76, 82, 88], 43) := by decide +kernel
theorem dX2_tellOf_44 : decode cX2_tellOf 44 = .ok (.aload_n 0, 1) := by decide +kernel
theorem dX2_tellOf_45 : decode cX2_tellOf 45 = .ok (.getfield 9, 3) := by decide +kernel
theorem dX2_tellOf_48 : decode cX2_tellOf 48 = .ok (.iload_n 1, 1) := by decide +kernel
theorem dX2_tellOf_49 : decode cX2_tellOf 49 = .ok (.invokestatic 102, 3) := by decide +kernel
theorem dX2_tellOf_52 : decode cX2_tellOf 52 = .ok (.ireturn, 1) := by decide +kernel
theorem dX2_tellOf_53 : decode cX2_tellOf 53 = .ok (.aload_n 0, 1) := by decide +kernel
theorem dX2_tellOf_54 : decode cX2_tellOf 54 = .ok (.getfield 15, 3) := by decide +kernel
theorem dX2_tellOf_57 : decode cX2_tellOf 57 = .ok (.iload_n 1, 1) := by decide +kernel
theorem dX2_tellOf_58 : decode cX2_tellOf 58 = .ok (.invokestatic 102, 3) := by decide +kernel
theorem dX2_tellOf_61 : decode cX2_tellOf 61 = .ok (.ireturn, 1) := by decide +kernel
theorem dX2_tellOf_62 : decode cX2_tellOf 62 = .ok (.aload_n 0, 1) := by decide +kernel
theorem dX2_tellOf_63 : decode cX2_tellOf 63 = .ok (.iload_n 1, 1) := by decide +kernel
theorem dX2_tellOf_64 : decode cX2_tellOf 64 = .ok (.invokevirtual 122, 3) := by decide +kernel
theorem dX2_tellOf_67 : decode cX2_tellOf 67 = .ok (.ireturn, 1) := by decide +kernel
theorem dX2_tellOf_68 : decode cX2_tellOf 68 = .ok (.aload_n 0, 1) := by decide +kernel
theorem dX2_tellOf_69 : decode cX2_tellOf 69 = .ok (.getfield 21, 3) := by decide +kernel
theorem dX2_tellOf_72 : decode cX2_tellOf 72 = .ok (.iload_n 1, 1) := by decide +kernel
theorem dX2_tellOf_73 : decode cX2_tellOf 73 = .ok (.invokestatic 102, 3) := by decide +kernel
theorem dX2_tellOf_76 : decode cX2_tellOf 76 = .ok (.ireturn, 1) := by decide +kernel
theorem dX2_tellOf_77 : decode cX2_tellOf 77 = .ok (.aload_n 0, 1) := by decide +kernel
theorem dX2_tellOf_78 : decode cX2_tellOf 78 = .ok (.iload_n 1, 1) := by decide +kernel
theorem dX2_tellOf_79 : decode cX2_tellOf 79 = .ok (.invokevirtual 150, 3) := by decide +kernel
theorem dX2_tellOf_82 : decode cX2_tellOf 82 = .ok (.ireturn, 1) := by decide +kernel
theorem dX2_tellOf_83 : decode cX2_tellOf 83 = .ok (.aload_n 0, 1) := by decide +kernel
theorem dX2_tellOf_84 : decode cX2_tellOf 84 = .ok (.iload_n 1, 1) := by decide +kernel
theorem dX2_tellOf_85 : decode cX2_tellOf 85 = .ok (.invokevirtual 134, 3) := by decide +kernel
theorem dX2_tellOf_88 : decode cX2_tellOf 88 = .ok (.ireturn, 1) := by decide +kernel
theorem dX2_tellOf_89 : decode cX2_tellOf 89 = .ok (.aload_n 0, 1) := by decide +kernel
theorem dX2_tellOf_90 : decode cX2_tellOf 90 = .ok (.iload_n 1, 1) := by decide +kernel
theorem dX2_tellOf_91 : decode cX2_tellOf 91 = .ok (.invokevirtual 134, 3) := by decide +kernel
theorem dX2_tellOf_94 : decode cX2_tellOf 94 = .ok (.invokestatic 130, 3) := by decide +kernel
theorem dX2_tellOf_97 : decode cX2_tellOf 97 = .ok (.ifCond .eq 7, 3) := by decide +kernel
theorem dX2_tellOf_100 : decode cX2_tellOf 100 = .ok (.iconst 1, 1) := by decide +kernel
theorem dX2_tellOf_101 : decode cX2_tellOf 101 = .ok (.goto 4, 3) := by decide +kernel
theorem dX2_tellOf_104 : decode cX2_tellOf 104 = .ok (.iconst 0, 1) := by decide +kernel
theorem dX2_tellOf_105 : decode cX2_tellOf 105 = .ok (.ireturn, 1) := by decide +kernel
theorem dX2_tellOf_106 : decode cX2_tellOf 106 = .ok (.aload_n 0, 1) := by decide +kernel
theorem dX2_tellOf_107 : decode cX2_tellOf 107 = .ok (.aload_n 0, 1) := by decide +kernel
theorem dX2_tellOf_108 : decode cX2_tellOf 108 = .ok (.getfield 31, 3) := by decide +kernel
theorem dX2_tellOf_111 : decode cX2_tellOf 111 = .ok (.iload_n 1, 1) := by decide +kernel
theorem dX2_tellOf_112 : decode cX2_tellOf 112 = .ok (.invokevirtual 153, 3) := by decide +kernel
theorem dX2_tellOf_115 : decode cX2_tellOf 115 = .ok (.ireturn, 1) := by decide +kernel
theorem dX2_pastAt_0 : decode cX2_pastAt 0 = .ok (.iload_n 1, 1) := by decide +kernel
theorem dX2_pastAt_1 : decode cX2_pastAt 1 = .ok (.ifCond .lt 21, 3) := by decide +kernel
theorem dX2_pastAt_4 : decode cX2_pastAt 4 = .ok (.iload_n 1, 1) := by decide +kernel
theorem dX2_pastAt_5 : decode cX2_pastAt 5 = .ok (.aload_n 0, 1) := by decide +kernel
theorem dX2_pastAt_6 : decode cX2_pastAt 6 = .ok (.getfield 35, 3) := by decide +kernel
theorem dX2_pastAt_9 : decode cX2_pastAt 9 = .ok (.arraylength, 1) := by decide +kernel
theorem dX2_pastAt_10 : decode cX2_pastAt 10 = .ok (.if_icmp .ge 12, 3) := by decide +kernel
theorem dX2_pastAt_13 : decode cX2_pastAt 13 = .ok (.aload_n 0, 1) := by decide +kernel
theorem dX2_pastAt_14 : decode cX2_pastAt 14 = .ok (.getfield 35, 3) := by decide +kernel
theorem dX2_pastAt_17 : decode cX2_pastAt 17 = .ok (.iload_n 1, 1) := by decide +kernel
theorem dX2_pastAt_18 : decode cX2_pastAt 18 = .ok (.aaload, 1) := by decide +kernel
theorem dX2_pastAt_19 : decode cX2_pastAt 19 = .ok (.goto 4, 3) := by decide +kernel
theorem dX2_pastAt_22 : decode cX2_pastAt 22 = .ok (.aconst_null, 1) := by decide +kernel
theorem dX2_pastAt_23 : decode cX2_pastAt 23 = .ok (.astore_n 2, 1) := by decide +kernel
theorem dX2_pastAt_24 : decode cX2_pastAt 24 = .ok (.aload_n 2, 1) := by decide +kernel
theorem dX2_pastAt_25 : decode cX2_pastAt 25 = .ok (.ifnonnull 10, 3) := by decide +kernel
theorem dX2_pastAt_28 : decode cX2_pastAt 28 = .ok (.aload_n 0, 1) := by decide +kernel
theorem dX2_pastAt_29 : decode cX2_pastAt 29 = .ok (.getfield 31, 3) := by decide +kernel
theorem dX2_pastAt_32 : decode cX2_pastAt 32 = .ok (.goto 4, 3) := by decide +kernel
theorem dX2_pastAt_35 : decode cX2_pastAt 35 = .ok (.aload_n 2, 1) := by decide +kernel
theorem dX2_pastAt_36 : decode cX2_pastAt 36 = .ok (.areturn, 1) := by decide +kernel
theorem dX2_remember_0 : decode cX2_remember 0 = .ok (.aload_n 0, 1) := by decide +kernel
theorem dX2_remember_1 : decode cX2_remember 1 = .ok (.aload_n 0, 1) := by decide +kernel
theorem dX2_remember_2 : decode cX2_remember 2 = .ok (.getfield 39, 3) := by decide +kernel
theorem dX2_remember_5 : decode cX2_remember 5 = .ok (.invokevirtual 89, 3) := by decide +kernel
theorem dX2_remember_8 : decode cX2_remember 8 = .ok (.aload_n 0, 1) := by decide +kernel
theorem dX2_remember_9 : decode cX2_remember 9 = .ok (.getfield 31, 3) := by decide +kernel
theorem dX2_remember_12 : decode cX2_remember 12 = .ok (.invokevirtual 85, 3) := by decide +kernel
theorem dX2_remember_15 : decode cX2_remember 15 = .ok (.aload_n 0, 1) := by decide +kernel
theorem dX2_remember_16 : decode cX2_remember 16 = .ok (.aload_n 0, 1) := by decide +kernel
theorem dX2_remember_17 : decode cX2_remember 17 = .ok (.getfield 39, 3) := by decide +kernel
theorem dX2_remember_20 : decode cX2_remember 20 = .ok (.iconst 1, 1) := by decide +kernel
theorem dX2_remember_21 : decode cX2_remember 21 = .ok (.iadd, 1) := by decide +kernel
theorem dX2_remember_22 : decode cX2_remember 22 = .ok (.bipush 8, 2) := by decide +kernel
theorem dX2_remember_24 : decode cX2_remember 24 = .ok (.irem, 1) := by decide +kernel
theorem dX2_remember_25 : decode cX2_remember 25 = .ok (.putfield 39, 3) := by decide +kernel
theorem dX2_remember_28 : decode cX2_remember 28 = .ok (.aload_n 0, 1) := by decide +kernel
theorem dX2_remember_29 : decode cX2_remember 29 = .ok (.aload_n 0, 1) := by decide +kernel
theorem dX2_remember_30 : decode cX2_remember 30 = .ok (.getfield 42, 3) := by decide +kernel
theorem dX2_remember_33 : decode cX2_remember 33 = .ok (.iconst 1, 1) := by decide +kernel
theorem dX2_remember_34 : decode cX2_remember 34 = .ok (.iadd, 1) := by decide +kernel
theorem dX2_remember_35 : decode cX2_remember 35 = .ok (.bipush 8, 2) := by decide +kernel
theorem dX2_remember_37 : decode cX2_remember 37 = .ok (.invokestatic 157, 3) := by decide +kernel
theorem dX2_remember_40 : decode cX2_remember 40 = .ok (.putfield 42, 3) := by decide +kernel
theorem dX2_remember_43 : decode cX2_remember 43 = .ok (.return_, 1) := by decide +kernel
theorem dX2_goBack_0 : decode cX2_goBack 0 = .ok (.aload_n 0, 1) := by decide +kernel
theorem dX2_goBack_1 : decode cX2_goBack 1 = .ok (.aload_n 0, 1) := by decide +kernel
theorem dX2_goBack_2 : decode cX2_goBack 2 = .ok (.getfield 39, 3) := by decide +kernel
theorem dX2_goBack_5 : decode cX2_goBack 5 = .ok (.bipush 8, 2) := by decide +kernel
theorem dX2_goBack_7 : decode cX2_goBack 7 = .ok (.iadd, 1) := by decide +kernel
theorem dX2_goBack_8 : decode cX2_goBack 8 = .ok (.iconst 1, 1) := by decide +kernel
theorem dX2_goBack_9 : decode cX2_goBack 9 = .ok (.isub, 1) := by decide +kernel
theorem dX2_goBack_10 : decode cX2_goBack 10 = .ok (.bipush 8, 2) := by decide +kernel
theorem dX2_goBack_12 : decode cX2_goBack 12 = .ok (.irem, 1) := by decide +kernel
theorem dX2_goBack_13 : decode cX2_goBack 13 = .ok (.putfield 39, 3) := by decide +kernel
theorem dX2_goBack_16 : decode cX2_goBack 16 = .ok (.aload_n 0, 1) := by decide +kernel
theorem dX2_goBack_17 : decode cX2_goBack 17 = .ok (.dup, 1) := by decide +kernel
theorem dX2_goBack_18 : decode cX2_goBack 18 = .ok (.getfield 42, 3) := by decide +kernel
theorem dX2_goBack_21 : decode cX2_goBack 21 = .ok (.iconst 1, 1) := by decide +kernel
theorem dX2_goBack_22 : decode cX2_goBack 22 = .ok (.isub, 1) := by decide +kernel
theorem dX2_goBack_23 : decode cX2_goBack 23 = .ok (.putfield 42, 3) := by decide +kernel
theorem dX2_goBack_26 : decode cX2_goBack 26 = .ok (.aload_n 0, 1) := by decide +kernel
theorem dX2_goBack_27 : decode cX2_goBack 27 = .ok (.getfield 31, 3) := by decide +kernel
theorem dX2_goBack_30 : decode cX2_goBack 30 = .ok (.aload_n 0, 1) := by decide +kernel
theorem dX2_goBack_31 : decode cX2_goBack 31 = .ok (.aload_n 0, 1) := by decide +kernel
theorem dX2_goBack_32 : decode cX2_goBack 32 = .ok (.getfield 39, 3) := by decide +kernel
theorem dX2_goBack_35 : decode cX2_goBack 35 = .ok (.invokevirtual 89, 3) := by decide +kernel
theorem dX2_goBack_38 : decode cX2_goBack 38 = .ok (.invokevirtual 85, 3) := by decide +kernel
theorem dX2_goBack_41 : decode cX2_goBack 41 = .ok (.return_, 1) := by decide +kernel
theorem dX3_init_0 : decode cX3_init 0 = .ok (.aload_n 0, 1) := by decide +kernel
theorem dX3_init_1 : decode cX3_init 1 = .ok (.invokespecial 3, 3) := by decide +kernel
theorem dX3_init_4 : decode cX3_init 4 = .ok (.aload_n 0, 1) := by decide +kernel
theorem dX3_init_5 : decode cX3_init 5 = .ok (.sipush 150, 3) := by decide +kernel
theorem dX3_init_8 : decode cX3_init 8 = .ok (.newarray .int, 2) := by decide +kernel
theorem dX3_init_10 : decode cX3_init 10 = .ok (.putfield 9, 3) := by decide +kernel
theorem dX3_init_13 : decode cX3_init 13 = .ok (.aload_n 0, 1) := by decide +kernel
theorem dX3_init_14 : decode cX3_init 14 = .ok (.iconst 0, 1) := by decide +kernel
theorem dX3_init_15 : decode cX3_init 15 = .ok (.putfield 15, 3) := by decide +kernel
theorem dX3_init_18 : decode cX3_init 18 = .ok (.aload_n 0, 1) := by decide +kernel
theorem dX3_init_19 : decode cX3_init 19 = .ok (.iconst 0, 1) := by decide +kernel
theorem dX3_init_20 : decode cX3_init 20 = .ok (.putfield 19, 3) := by decide +kernel
theorem dX3_init_23 : decode cX3_init 23 = .ok (.aload_n 0, 1) := by decide +kernel
theorem dX3_init_24 : decode cX3_init 24 = .ok (.iconst 0, 1) := by decide +kernel
theorem dX3_init_25 : decode cX3_init 25 = .ok (.putfield 22, 3) := by decide +kernel
theorem dX3_init_28 : decode cX3_init 28 = .ok (.aload_n 0, 1) := by decide +kernel
theorem dX3_init_29 : decode cX3_init 29 = .ok (.iconst 0, 1) := by decide +kernel
theorem dX3_init_30 : decode cX3_init 30 = .ok (.putfield 25, 3) := by decide +kernel
theorem dX3_init_33 : decode cX3_init 33 = .ok (.aload_n 0, 1) := by decide +kernel
theorem dX3_init_34 : decode cX3_init 34 = .ok (.iconst 0, 1) := by decide +kernel
theorem dX3_init_35 : decode cX3_init 35 = .ok (.putfield 28, 3) := by decide +kernel
theorem dX3_init_38 : decode cX3_init 38 = .ok (.return_, 1) := by decide +kernel
theorem dX3_append_0 : decode cX3_append 0 = .ok (.aload_n 0, 1) := by decide +kernel
theorem dX3_append_1 : decode cX3_append 1 = .ok (.getfield 9, 3) := by decide +kernel
theorem dX3_append_4 : decode cX3_append 4 = .ok (.aload_n 0, 1) := by decide +kernel
theorem dX3_append_5 : decode cX3_append 5 = .ok (.getfield 15, 3) := by decide +kernel
theorem dX3_append_8 : decode cX3_append 8 = .ok (.iload_n 1, 1) := by decide +kernel
theorem dX3_append_9 : decode cX3_append 9 = .ok (.invokestatic 31, 3) := by decide +kernel
theorem dX3_append_12 : decode cX3_append 12 = .ok (.aload_n 0, 1) := by decide +kernel
theorem dX3_append_13 : decode cX3_append 13 = .ok (.dup, 1) := by decide +kernel
theorem dX3_append_14 : decode cX3_append 14 = .ok (.getfield 15, 3) := by decide +kernel
theorem dX3_append_17 : decode cX3_append 17 = .ok (.iconst 1, 1) := by decide +kernel
theorem dX3_append_18 : decode cX3_append 18 = .ok (.iadd, 1) := by decide +kernel
theorem dX3_append_19 : decode cX3_append 19 = .ok (.putfield 15, 3) := by decide +kernel
theorem dX3_append_22 : decode cX3_append 22 = .ok (.aload_n 0, 1) := by decide +kernel
theorem dX3_append_23 : decode cX3_append 23 = .ok (.getfield 15, 3) := by decide +kernel
theorem dX3_append_26 : decode cX3_append 26 = .ok (.ireturn, 1) := by decide +kernel
theorem dX3_readInto_0 : decode cX3_readInto 0 = .ok (.aload_n 0, 1) := by decide +kernel
theorem dX3_readInto_1 : decode cX3_readInto 1 = .ok (.iconst 0, 1) := by decide +kernel
theorem dX3_readInto_2 : decode cX3_readInto 2 = .ok (.putfield 22, 3) := by decide +kernel
theorem dX3_readInto_5 : decode cX3_readInto 5 = .ok (.aload_n 0, 1) := by decide +kernel
theorem dX3_readInto_6 : decode cX3_readInto 6 = .ok (.aload_n 1, 1) := by decide +kernel
theorem dX3_readInto_7 : decode cX3_readInto 7 = .ok (.invokevirtual 35, 3) := by decide +kernel
theorem dX3_readInto_10 : decode cX3_readInto 10 = .ok (.ifCond .ne 11, 3) := by decide +kernel
theorem dX3_readInto_13 : decode cX3_readInto 13 = .ok (.bipush (-10), 2) := by decide +kernel
theorem dX3_readInto_15 : decode cX3_readInto 15 = .ok (.aload_n 0, 1) := by decide +kernel
theorem dX3_readInto_16 : decode cX3_readInto 16 = .ok (.getfield 19, 3) := by decide +kernel
theorem dX3_readInto_19 : decode cX3_readInto 19 = .ok (.isub, 1) := by decide +kernel
theorem dX3_readInto_20 : decode cX3_readInto 20 = .ok (.ireturn, 1) := by decide +kernel
theorem dX3_readInto_21 : decode cX3_readInto 21 = .ok (.iconst 1, 1) := by decide +kernel
theorem dX3_readInto_22 : decode cX3_readInto 22 = .ok (.istore_n 2, 1) := by decide +kernel
theorem dX3_readInto_23 : decode cX3_readInto 23 = .ok (.iload_n 2, 1) := by decide +kernel
theorem dX3_readInto_24 : decode cX3_readInto 24 = .ok (.sipush 150, 3) := by decide +kernel
theorem dX3_readInto_27 : decode cX3_readInto 27 = .ok (.if_icmp .gt 38, 3) := by decide +kernel
theorem dX3_readInto_30 : decode cX3_readInto 30 = .ok (.aload_n 0, 1) := by decide +kernel
theorem dX3_readInto_31 : decode cX3_readInto 31 = .ok (.invokevirtual 39, 3) := by decide +kernel
theorem dX3_readInto_34 : decode cX3_readInto 34 = .ok (.aload_n 0, 1) := by decide +kernel
theorem dX3_readInto_35 : decode cX3_readInto 35 = .ok (.getfield 25, 3) := by decide +kernel
theorem dX3_readInto_38 : decode cX3_readInto 38 = .ok (.ifCond .ne 5, 3) := by decide +kernel
theorem dX3_readInto_41 : decode cX3_readInto 41 = .ok (.iload_n 2, 1) := by decide +kernel
theorem dX3_readInto_42 : decode cX3_readInto 42 = .ok (.ireturn, 1) := by decide +kernel
theorem dX3_readInto_43 : decode cX3_readInto 43 = .ok (.aload_n 0, 1) := by decide +kernel
theorem dX3_readInto_44 : decode cX3_readInto 44 = .ok (.aload_n 1, 1) := by decide +kernel
theorem dX3_readInto_45 : decode cX3_readInto 45 = .ok (.invokevirtual 42, 3) := by decide +kernel
theorem dX3_readInto_48 : decode cX3_readInto 48 = .ok (.ifCond .ne 11, 3) := by decide +kernel
theorem dX3_readInto_51 : decode cX3_readInto 51 = .ok (.bipush (-10), 2) := by decide +kernel
theorem dX3_readInto_53 : decode cX3_readInto 53 = .ok (.aload_n 0, 1) := by decide +kernel
theorem dX3_readInto_54 : decode cX3_readInto 54 = .ok (.getfield 19, 3) := by decide +kernel
theorem dX3_readInto_57 : decode cX3_readInto 57 = .ok (.isub, 1) := by decide +kernel
theorem dX3_readInto_58 : decode cX3_readInto 58 = .ok (.ireturn, 1) := by decide +kernel
theorem dX3_readInto_59 : decode cX3_readInto 59 = .ok (.iinc 2 1, 3) := by decide +kernel
theorem dX3_readInto_62 : decode cX3_readInto 62 = .ok (.goto (-39), 3) := by decide +kernel
theorem dX3_readInto_65 : decode cX3_readInto 65 = .ok (.bipush (-10), 2) := by decide +kernel
theorem dX3_readInto_67 : decode cX3_readInto 67 = .ok (.aload_n 0, 1) := by decide +kernel
theorem dX3_readInto_68 : decode cX3_readInto 68 = .ok (.getfield 19, 3) := by decide +kernel
theorem dX3_readInto_71 : decode cX3_readInto 71 = .ok (.isub, 1) := by decide +kernel
theorem dX3_readInto_72 : decode cX3_readInto 72 = .ok (.ireturn, 1) := by decide +kernel
theorem dX3_takeOpening_0 : decode cX3_takeOpening 0 = .ok (.aload_n 0, 1) := by decide +kernel
theorem dX3_takeOpening_1 : decode cX3_takeOpening 1 = .ok (.invokevirtual 39, 3) := by decide +kernel
theorem dX3_takeOpening_4 : decode cX3_takeOpening 4 = .ok (.aload_n 0, 1) := by decide +kernel
theorem dX3_takeOpening_5 : decode cX3_takeOpening 5 = .ok (.ldc 45, 2) := by decide +kernel
theorem dX3_takeOpening_7 : decode cX3_takeOpening 7 = .ok (.invokevirtual 47, 3) := by decide +kernel
theorem dX3_takeOpening_10 : decode cX3_takeOpening 10 = .ok (.ifCond .eq 13, 3) := by decide +kernel
theorem dX3_takeOpening_13 : decode cX3_takeOpening 13 = .ok (.aload_n 0, 1) := by decide +kernel
theorem dX3_takeOpening_14 : decode cX3_takeOpening 14 = .ok (.iconst 0, 1) := by decide +kernel
theorem dX3_takeOpening_15 : decode cX3_takeOpening 15 = .ok (.bipush 40, 2) := by decide +kernel
theorem dX3_takeOpening_17 : decode cX3_takeOpening 17 = .ok (.invokevirtual 51, 3) := by decide +kernel
theorem dX3_takeOpening_20 : decode cX3_takeOpening 20 = .ok (.ifCond .ne 5, 3) := by decide +kernel
theorem dX3_takeOpening_23 : decode cX3_takeOpening 23 = .ok (.iconst 0, 1) := by decide +kernel
theorem dX3_takeOpening_24 : decode cX3_takeOpening 24 = .ok (.ireturn, 1) := by decide +kernel
theorem dX3_takeOpening_25 : decode cX3_takeOpening 25 = .ok (.aload_n 1, 1) := by decide +kernel
theorem dX3_takeOpening_26 : decode cX3_takeOpening 26 = .ok (.aload_n 0, 1) := by decide +kernel
theorem dX3_takeOpening_27 : decode cX3_takeOpening 27 = .ok (.getfield 28, 3) := by decide +kernel
theorem dX3_takeOpening_30 : decode cX3_takeOpening 30 = .ok (.invokevirtual 55, 3) := by decide +kernel
theorem dX3_takeOpening_33 : decode cX3_takeOpening 33 = .ok (.aload_n 0, 1) := by decide +kernel
theorem dX3_takeOpening_34 : decode cX3_takeOpening 34 = .ok (.invokevirtual 61, 3) := by decide +kernel
theorem dX3_takeOpening_37 : decode cX3_takeOpening 37 = .ok (.ireturn, 1) := by decide +kernel
theorem dX3_takeItem_0 : decode cX3_takeItem 0 = .ok (.aload_n 0, 1) := by decide +kernel
theorem dX3_takeItem_1 : decode cX3_takeItem 1 = .ok (.ldc 65, 2) := by decide +kernel
theorem dX3_takeItem_3 : decode cX3_takeItem 3 = .ok (.invokevirtual 47, 3) := by decide +kernel
theorem dX3_takeItem_6 : decode cX3_takeItem 6 = .ok (.ifCond .eq 26, 3) := by decide +kernel
theorem dX3_takeItem_9 : decode cX3_takeItem 9 = .ok (.aload_n 1, 1) := by decide +kernel
theorem dX3_takeItem_10 : decode cX3_takeItem 10 = .ok (.getfield 67, 3) := by decide +kernel
theorem dX3_takeItem_13 : decode cX3_takeItem 13 = .ok (.bipush 7, 2) := by decide +kernel
theorem dX3_takeItem_15 : decode cX3_takeItem 15 = .ok (.if_icmp .ge 15, 3) := by decide +kernel
theorem dX3_takeItem_18 : decode cX3_takeItem 18 = .ok (.aload_n 0, 1) := by decide +kernel
theorem dX3_takeItem_19 : decode cX3_takeItem 19 = .ok (.aload_n 1, 1) := by decide +kernel
theorem dX3_takeItem_20 : decode cX3_takeItem 20 = .ok (.invokevirtual 70, 3) := by decide +kernel
theorem dX3_takeItem_23 : decode cX3_takeItem 23 = .ok (.ifCond .eq 7, 3) := by decide +kernel
theorem dX3_takeItem_26 : decode cX3_takeItem 26 = .ok (.iconst 1, 1) := by decide +kernel
theorem dX3_takeItem_27 : decode cX3_takeItem 27 = .ok (.goto 4, 3) := by decide +kernel
theorem dX3_takeItem_30 : decode cX3_takeItem 30 = .ok (.iconst 0, 1) := by decide +kernel
theorem dX3_takeItem_31 : decode cX3_takeItem 31 = .ok (.ireturn, 1) := by decide +kernel
theorem dX3_takeItem_32 : decode cX3_takeItem 32 = .ok (.aload_n 0, 1) := by decide +kernel
theorem dX3_takeItem_33 : decode cX3_takeItem 33 = .ok (.ldc 73, 2) := by decide +kernel
theorem dX3_takeItem_35 : decode cX3_takeItem 35 = .ok (.invokevirtual 47, 3) := by decide +kernel
theorem dX3_takeItem_38 : decode cX3_takeItem 38 = .ok (.ifCond .eq 9, 3) := by decide +kernel
theorem dX3_takeItem_41 : decode cX3_takeItem 41 = .ok (.aload_n 0, 1) := by decide +kernel
theorem dX3_takeItem_42 : decode cX3_takeItem 42 = .ok (.aload_n 1, 1) := by decide +kernel
theorem dX3_takeItem_43 : decode cX3_takeItem 43 = .ok (.invokevirtual 75, 3) := by decide +kernel
theorem dX3_takeItem_46 : decode cX3_takeItem 46 = .ok (.ireturn, 1) := by decide +kernel
theorem dX3_takeItem_47 : decode cX3_takeItem 47 = .ok (.aload_n 0, 1) := by decide +kernel
theorem dX3_takeItem_48 : decode cX3_takeItem 48 = .ok (.ldc 78, 2) := by decide +kernel
theorem dX3_takeItem_50 : decode cX3_takeItem 50 = .ok (.invokevirtual 47, 3) := by decide +kernel
theorem dX3_takeItem_53 : decode cX3_takeItem 53 = .ok (.ifCond .eq 9, 3) := by decide +kernel
theorem dX3_takeItem_56 : decode cX3_takeItem 56 = .ok (.aload_n 0, 1) := by decide +kernel
theorem dX3_takeItem_57 : decode cX3_takeItem 57 = .ok (.aload_n 1, 1) := by decide +kernel
theorem dX3_takeItem_58 : decode cX3_takeItem 58 = .ok (.invokevirtual 80, 3) := by decide +kernel
theorem dX3_takeItem_61 : decode cX3_takeItem 61 = .ok (.ireturn, 1) := by decide +kernel
theorem dX3_takeItem_62 : decode cX3_takeItem 62 = .ok (.aload_n 0, 1) := by decide +kernel
theorem dX3_takeItem_63 : decode cX3_takeItem 63 = .ok (.ldc 83, 2) := by decide +kernel
theorem dX3_takeItem_65 : decode cX3_takeItem 65 = .ok (.invokevirtual 47, 3) := by decide +kernel
theorem dX3_takeItem_68 : decode cX3_takeItem 68 = .ok (.ifCond .eq 15, 3) := by decide +kernel
theorem dX3_takeItem_71 : decode cX3_takeItem 71 = .ok (.aload_n 0, 1) := by decide +kernel
theorem dX3_takeItem_72 : decode cX3_takeItem 72 = .ok (.aload_n 1, 1) := by decide +kernel
theorem dX3_takeItem_73 : decode cX3_takeItem 73 = .ok (.invokevirtual 85, 3) := by decide +kernel
theorem dX3_takeItem_76 : decode cX3_takeItem 76 = .ok (.ifCond .eq 7, 3) := by decide +kernel
theorem dX3_takeItem_79 : decode cX3_takeItem 79 = .ok (.iconst 1, 1) := by decide +kernel
theorem dX3_takeItem_80 : decode cX3_takeItem 80 = .ok (.goto 4, 3) := by decide +kernel
theorem dX3_takeItem_83 : decode cX3_takeItem 83 = .ok (.iconst 0, 1) := by decide +kernel
theorem dX3_takeItem_84 : decode cX3_takeItem 84 = .ok (.ireturn, 1) := by decide +kernel
theorem dX3_takeLimb_0 : decode cX3_takeLimb 0 = .ok (.aload_n 0, 1) := by decide +kernel
theorem dX3_takeLimb_1 : decode cX3_takeLimb 1 = .ok (.iconst 0, 1) := by decide +kernel
theorem dX3_takeLimb_2 : decode cX3_takeLimb 2 = .ok (.iconst 5, 1) := by decide +kernel
theorem dX3_takeLimb_3 : decode cX3_takeLimb 3 = .ok (.invokevirtual 51, 3) := by decide +kernel
theorem dX3_takeLimb_6 : decode cX3_takeLimb 6 = .ok (.ifCond .ne 5, 3) := by decide +kernel
theorem dX3_takeLimb_9 : decode cX3_takeLimb 9 = .ok (.iconst 0, 1) := by decide +kernel
theorem dX3_takeLimb_10 : decode cX3_takeLimb 10 = .ok (.ireturn, 1) := by decide +kernel
theorem dX3_takeLimb_11 : decode cX3_takeLimb 11 = .ok (.aload_n 0, 1) := by decide +kernel
theorem dX3_takeLimb_12 : decode cX3_takeLimb 12 = .ok (.getfield 28, 3) := by decide +kernel
theorem dX3_takeLimb_15 : decode cX3_takeLimb 15 = .ok (.istore_n 2, 1) := by decide +kernel
theorem dX3_takeLimb_16 : decode cX3_takeLimb 16 = .ok (.aload_n 0, 1) := by decide +kernel
theorem dX3_takeLimb_17 : decode cX3_takeLimb 17 = .ok (.iconst 0, 1) := by decide +kernel
theorem dX3_takeLimb_18 : decode cX3_takeLimb 18 = .ok (.iconst 5, 1) := by decide +kernel
theorem dX3_takeLimb_19 : decode cX3_takeLimb 19 = .ok (.invokevirtual 51, 3) := by decide +kernel
theorem dX3_takeLimb_22 : decode cX3_takeLimb 22 = .ok (.ifCond .ne 5, 3) := by decide +kernel
theorem dX3_takeLimb_25 : decode cX3_takeLimb 25 = .ok (.iconst 0, 1) := by decide +kernel
theorem dX3_takeLimb_26 : decode cX3_takeLimb 26 = .ok (.ireturn, 1) := by decide +kernel
theorem dX3_takeLimb_27 : decode cX3_takeLimb 27 = .ok (.aload_n 0, 1) := by decide +kernel
theorem dX3_takeLimb_28 : decode cX3_takeLimb 28 = .ok (.getfield 28, 3) := by decide +kernel
theorem dX3_takeLimb_31 : decode cX3_takeLimb 31 = .ok (.istore_n 3, 1) := by decide +kernel
theorem dX3_takeLimb_32 : decode cX3_takeLimb 32 = .ok (.aload_n 0, 1) := by decide +kernel
theorem dX3_takeLimb_33 : decode cX3_takeLimb 33 = .ok (.iconst 1, 1) := by decide +kernel
theorem dX3_takeLimb_34 : decode cX3_takeLimb 34 = .ok (.bipush 9, 2) := by decide +kernel
theorem dX3_takeLimb_36 : decode cX3_takeLimb 36 = .ok (.invokevirtual 51, 3) := by decide +kernel
theorem dX3_takeLimb_39 : decode cX3_takeLimb 39 = .ok (.ifCond .ne 5, 3) := by decide +kernel
theorem dX3_takeLimb_42 : decode cX3_takeLimb 42 = .ok (.iconst 0, 1) := by decide +kernel
theorem dX3_takeLimb_43 : decode cX3_takeLimb 43 = .ok (.ireturn, 1) := by decide +kernel
theorem dX3_takeLimb_44 : decode cX3_takeLimb 44 = .ok (.aload_n 0, 1) := by decide +kernel
theorem dX3_takeLimb_45 : decode cX3_takeLimb 45 = .ok (.getfield 28, 3) := by decide +kernel
theorem dX3_takeLimb_48 : decode cX3_takeLimb 48 = .ok (.istore 4, 2) := by decide +kernel
theorem dX3_takeLimb_50 : decode cX3_takeLimb 50 = .ok (.aload_n 0, 1) := by decide +kernel
theorem dX3_takeLimb_51 : decode cX3_takeLimb 51 = .ok (.iconst 1, 1) := by decide +kernel
theorem dX3_takeLimb_52 : decode cX3_takeLimb 52 = .ok (.bipush 20, 2) := by decide +kernel
theorem dX3_takeLimb_54 : decode cX3_takeLimb 54 = .ok (.invokevirtual 51, 3) := by decide +kernel
theorem dX3_takeLimb_57 : decode cX3_takeLimb 57 = .ok (.ifCond .ne 5, 3) := by decide +kernel
theorem dX3_takeLimb_60 : decode cX3_takeLimb 60 = .ok (.iconst 0, 1) := by decide +kernel
theorem dX3_takeLimb_61 : decode cX3_takeLimb 61 = .ok (.ireturn, 1) := by decide +kernel
theorem dX3_takeLimb_62 : decode cX3_takeLimb 62 = .ok (.aload_n 0, 1) := by decide +kernel
theorem dX3_takeLimb_63 : decode cX3_takeLimb 63 = .ok (.getfield 28, 3) := by decide +kernel
theorem dX3_takeLimb_66 : decode cX3_takeLimb 66 = .ok (.istore 5, 2) := by decide +kernel
theorem dX3_takeLimb_68 : decode cX3_takeLimb 68 = .ok (.aload_n 0, 1) := by decide +kernel
theorem dX3_takeLimb_69 : decode cX3_takeLimb 69 = .ok (.iconst 0, 1) := by decide +kernel
theorem dX3_takeLimb_70 : decode cX3_takeLimb 70 = .ok (.bipush 8, 2) := by decide +kernel
theorem dX3_takeLimb_72 : decode cX3_takeLimb 72 = .ok (.invokevirtual 51, 3) := by decide +kernel
theorem dX3_takeLimb_75 : decode cX3_takeLimb 75 = .ok (.ifCond .ne 5, 3) := by decide +kernel
theorem dX3_takeLimb_78 : decode cX3_takeLimb 78 = .ok (.iconst 0, 1) := by decide +kernel
theorem dX3_takeLimb_79 : decode cX3_takeLimb 79 = .ok (.ireturn, 1) := by decide +kernel
theorem dX3_takeLimb_80 : decode cX3_takeLimb 80 = .ok (.aload_n 1, 1) := by decide +kernel
theorem dX3_takeLimb_81 : decode cX3_takeLimb 81 = .ok (.iload_n 2, 1) := by decide +kernel
theorem dX3_takeLimb_82 : decode cX3_takeLimb 82 = .ok (.iload_n 3, 1) := by decide +kernel
theorem dX3_takeLimb_83 : decode cX3_takeLimb 83 = .ok (.iload 4, 2) := by decide +kernel
theorem dX3_takeLimb_85 : decode cX3_takeLimb 85 = .ok (.iload 5, 2) := by decide +kernel
theorem dX3_takeLimb_87 : decode cX3_takeLimb 87 = .ok (.aload_n 0, 1) := by decide +kernel
theorem dX3_takeLimb_88 : decode cX3_takeLimb 88 = .ok (.getfield 28, 3) := by decide +kernel
theorem dX3_takeLimb_91 : decode cX3_takeLimb 91 = .ok (.invokevirtual 88, 3) := by decide +kernel
theorem dX3_takeLimb_94 : decode cX3_takeLimb 94 = .ok (.pop, 1) := by decide +kernel
theorem dX3_takeLimb_95 : decode cX3_takeLimb 95 = .ok (.aload_n 0, 1) := by decide +kernel
theorem dX3_takeLimb_96 : decode cX3_takeLimb 96 = .ok (.invokevirtual 61, 3) := by decide +kernel
theorem dX3_takeLimb_99 : decode cX3_takeLimb 99 = .ok (.ireturn, 1) := by decide +kernel
theorem dX3_takeMoves_0 : decode cX3_takeMoves 0 = .ok (.iconst 0, 1) := by decide +kernel
theorem dX3_takeMoves_1 : decode cX3_takeMoves 1 = .ok (.istore_n 2, 1) := by decide +kernel
theorem dX3_takeMoves_2 : decode cX3_takeMoves 2 = .ok (.iload_n 2, 1) := by decide +kernel
theorem dX3_takeMoves_3 : decode cX3_takeMoves 3 = .ok (.bipush 9, 2) := by decide +kernel
theorem dX3_takeMoves_5 : decode cX3_takeMoves 5 = .ok (.if_icmp .gt 56, 3) := by decide +kernel
theorem dX3_takeMoves_8 : decode cX3_takeMoves 8 = .ok (.aload_n 0, 1) := by decide +kernel
theorem dX3_takeMoves_9 : decode cX3_takeMoves 9 = .ok (.invokevirtual 39, 3) := by decide +kernel
theorem dX3_takeMoves_12 : decode cX3_takeMoves 12 = .ok (.iload_n 2, 1) := by decide +kernel
theorem dX3_takeMoves_13 : decode cX3_takeMoves 13 = .ok (.ifCond .le 13, 3) := by decide +kernel
theorem dX3_takeMoves_16 : decode cX3_takeMoves 16 = .ok (.aload_n 0, 1) := by decide +kernel
theorem dX3_takeMoves_17 : decode cX3_takeMoves 17 = .ok (.getfield 25, 3) := by decide +kernel
theorem dX3_takeMoves_20 : decode cX3_takeMoves 20 = .ok (.iconst 3, 1) := by decide +kernel
theorem dX3_takeMoves_21 : decode cX3_takeMoves 21 = .ok (.if_icmp .ne 5, 3) := by decide +kernel
theorem dX3_takeMoves_24 : decode cX3_takeMoves 24 = .ok (.iconst 1, 1) := by decide +kernel
theorem dX3_takeMoves_25 : decode cX3_takeMoves 25 = .ok (.ireturn, 1) := by decide +kernel
theorem dX3_takeMoves_26 : decode cX3_takeMoves 26 = .ok (.iload_n 2, 1) := by decide +kernel
theorem dX3_takeMoves_27 : decode cX3_takeMoves 27 = .ok (.bipush 9, 2) := by decide +kernel
theorem dX3_takeMoves_29 : decode cX3_takeMoves 29 = .ok (.if_icmp .eq 12, 3) := by decide +kernel
theorem dX3_takeMoves_32 : decode cX3_takeMoves 32 = .ok (.aload_n 0, 1) := by decide +kernel
theorem dX3_takeMoves_33 : decode cX3_takeMoves 33 = .ok (.iconst 0, 1) := by decide +kernel
theorem dX3_takeMoves_34 : decode cX3_takeMoves 34 = .ok (.iconst 4, 1) := by decide +kernel
theorem dX3_takeMoves_35 : decode cX3_takeMoves 35 = .ok (.invokevirtual 92, 3) := by decide +kernel
theorem dX3_takeMoves_38 : decode cX3_takeMoves 38 = .ok (.ifCond .ne 5, 3) := by decide +kernel
theorem dX3_takeMoves_41 : decode cX3_takeMoves 41 = .ok (.iconst 0, 1) := by decide +kernel
theorem dX3_takeMoves_42 : decode cX3_takeMoves 42 = .ok (.ireturn, 1) := by decide +kernel
theorem dX3_takeMoves_43 : decode cX3_takeMoves 43 = .ok (.aload_n 1, 1) := by decide +kernel
theorem dX3_takeMoves_44 : decode cX3_takeMoves 44 = .ok (.aload_n 1, 1) := by decide +kernel
theorem dX3_takeMoves_45 : decode cX3_takeMoves 45 = .ok (.getfield 95, 3) := by decide +kernel
theorem dX3_takeMoves_48 : decode cX3_takeMoves 48 = .ok (.aload_n 0, 1) := by decide +kernel
theorem dX3_takeMoves_49 : decode cX3_takeMoves 49 = .ok (.getfield 28, 3) := by decide +kernel
theorem dX3_takeMoves_52 : decode cX3_takeMoves 52 = .ok (.invokevirtual 99, 3) := by decide +kernel
theorem dX3_takeMoves_55 : decode cX3_takeMoves 55 = .ok (.iinc 2 1, 3) := by decide +kernel
theorem dX3_takeMoves_58 : decode cX3_takeMoves 58 = .ok (.goto (-56), 3) := by decide +kernel
theorem dX3_takeMoves_61 : decode cX3_takeMoves 61 = .ok (.iconst 0, 1) := by decide +kernel
theorem dX3_takeMoves_62 : decode cX3_takeMoves 62 = .ok (.ireturn, 1) := by decide +kernel
theorem dX3_takeTie_0 : decode cX3_takeTie 0 = .ok (.aload_n 0, 1) := by decide +kernel
theorem dX3_takeTie_1 : decode cX3_takeTie 1 = .ok (.iconst 0, 1) := by decide +kernel
theorem dX3_takeTie_2 : decode cX3_takeTie 2 = .ok (.aload_n 1, 1) := by decide +kernel
theorem dX3_takeTie_3 : decode cX3_takeTie 3 = .ok (.getfield 67, 3) := by decide +kernel
theorem dX3_takeTie_6 : decode cX3_takeTie 6 = .ok (.iconst 1, 1) := by decide +kernel
theorem dX3_takeTie_7 : decode cX3_takeTie 7 = .ok (.isub, 1) := by decide +kernel
theorem dX3_takeTie_8 : decode cX3_takeTie 8 = .ok (.invokevirtual 51, 3) := by decide +kernel
theorem dX3_takeTie_11 : decode cX3_takeTie 11 = .ok (.ifCond .eq 17, 3) := by decide +kernel
theorem dX3_takeTie_14 : decode cX3_takeTie 14 = .ok (.aload_n 1, 1) := by decide +kernel
theorem dX3_takeTie_15 : decode cX3_takeTie 15 = .ok (.aload_n 0, 1) := by decide +kernel
theorem dX3_takeTie_16 : decode cX3_takeTie 16 = .ok (.getfield 28, 3) := by decide +kernel
theorem dX3_takeTie_19 : decode cX3_takeTie 19 = .ok (.invokevirtual 103, 3) := by decide +kernel
theorem dX3_takeTie_22 : decode cX3_takeTie 22 = .ok (.invokestatic 107, 3) := by decide +kernel
theorem dX3_takeTie_25 : decode cX3_takeTie 25 = .ok (.ifCond .ne 5, 3) := by decide +kernel
theorem dX3_takeTie_28 : decode cX3_takeTie 28 = .ok (.iconst 0, 1) := by decide +kernel
theorem dX3_takeTie_29 : decode cX3_takeTie 29 = .ok (.ireturn, 1) := by decide +kernel
theorem dX3_takeTie_30 : decode cX3_takeTie 30 = .ok (.aload_n 1, 1) := by decide +kernel
theorem dX3_takeTie_31 : decode cX3_takeTie 31 = .ok (.getfield 95, 3) := by decide +kernel
theorem dX3_takeTie_34 : decode cX3_takeTie 34 = .ok (.getfield 111, 3) := by decide +kernel
theorem dX3_takeTie_37 : decode cX3_takeTie 37 = .ok (.aload_n 0, 1) := by decide +kernel
theorem dX3_takeTie_38 : decode cX3_takeTie 38 = .ok (.getfield 28, 3) := by decide +kernel
theorem dX3_takeTie_41 : decode cX3_takeTie 41 = .ok (.iconst 0, 1) := by decide +kernel
theorem dX3_takeTie_42 : decode cX3_takeTie 42 = .ok (.invokestatic 31, 3) := by decide +kernel
theorem dX3_takeTie_45 : decode cX3_takeTie 45 = .ok (.aload_n 0, 1) := by decide +kernel
theorem dX3_takeTie_46 : decode cX3_takeTie 46 = .ok (.invokevirtual 61, 3) := by decide +kernel
theorem dX3_takeTie_49 : decode cX3_takeTie 49 = .ok (.ireturn, 1) := by decide +kernel
theorem dX3_takeHang_0 : decode cX3_takeHang 0 = .ok (.aload_n 0, 1) := by decide +kernel
theorem dX3_takeHang_1 : decode cX3_takeHang 1 = .ok (.iconst 0, 1) := by decide +kernel
theorem dX3_takeHang_2 : decode cX3_takeHang 2 = .ok (.aload_n 1, 1) := by decide +kernel
theorem dX3_takeHang_3 : decode cX3_takeHang 3 = .ok (.getfield 67, 3) := by decide +kernel
theorem dX3_takeHang_6 : decode cX3_takeHang 6 = .ok (.iconst 1, 1) := by decide +kernel
theorem dX3_takeHang_7 : decode cX3_takeHang 7 = .ok (.isub, 1) := by decide +kernel
theorem dX3_takeHang_8 : decode cX3_takeHang 8 = .ok (.invokevirtual 51, 3) := by decide +kernel
theorem dX3_takeHang_11 : decode cX3_takeHang 11 = .ok (.ifCond .ne 5, 3) := by decide +kernel
theorem dX3_takeHang_14 : decode cX3_takeHang 14 = .ok (.iconst 0, 1) := by decide +kernel
theorem dX3_takeHang_15 : decode cX3_takeHang 15 = .ok (.ireturn, 1) := by decide +kernel
theorem dX3_takeHang_16 : decode cX3_takeHang 16 = .ok (.aload_n 0, 1) := by decide +kernel
theorem dX3_takeHang_17 : decode cX3_takeHang 17 = .ok (.getfield 28, 3) := by decide +kernel
theorem dX3_takeHang_20 : decode cX3_takeHang 20 = .ok (.istore_n 2, 1) := by decide +kernel
theorem dX3_takeHang_21 : decode cX3_takeHang 21 = .ok (.aload_n 0, 1) := by decide +kernel
theorem dX3_takeHang_22 : decode cX3_takeHang 22 = .ok (.iconst 0, 1) := by decide +kernel
theorem dX3_takeHang_23 : decode cX3_takeHang 23 = .ok (.bipush 8, 2) := by decide +kernel
theorem dX3_takeHang_25 : decode cX3_takeHang 25 = .ok (.invokevirtual 51, 3) := by decide +kernel
theorem dX3_takeHang_28 : decode cX3_takeHang 28 = .ok (.ifCond .ne 5, 3) := by decide +kernel
theorem dX3_takeHang_31 : decode cX3_takeHang 31 = .ok (.iconst 0, 1) := by decide +kernel
theorem dX3_takeHang_32 : decode cX3_takeHang 32 = .ok (.ireturn, 1) := by decide +kernel
theorem dX3_takeHang_33 : decode cX3_takeHang 33 = .ok (.aload_n 1, 1) := by decide +kernel
theorem dX3_takeHang_34 : decode cX3_takeHang 34 = .ok (.getfield 95, 3) := by decide +kernel
theorem dX3_takeHang_37 : decode cX3_takeHang 37 = .ok (.getfield 116, 3) := by decide +kernel
theorem dX3_takeHang_40 : decode cX3_takeHang 40 = .ok (.iload_n 2, 1) := by decide +kernel
theorem dX3_takeHang_41 : decode cX3_takeHang 41 = .ok (.aload_n 0, 1) := by decide +kernel
theorem dX3_takeHang_42 : decode cX3_takeHang 42 = .ok (.getfield 28, 3) := by decide +kernel
theorem dX3_takeHang_45 : decode cX3_takeHang 45 = .ok (.invokestatic 31, 3) := by decide +kernel
theorem dX3_takeHang_48 : decode cX3_takeHang 48 = .ok (.aload_n 0, 1) := by decide +kernel
theorem dX3_takeHang_49 : decode cX3_takeHang 49 = .ok (.invokevirtual 61, 3) := by decide +kernel
theorem dX3_takeHang_52 : decode cX3_takeHang 52 = .ok (.ireturn, 1) := by decide +kernel
theorem dX3_takeNumber_0 : decode cX3_takeNumber 0 = .ok (.aload_n 0, 1) := by decide +kernel
theorem dX3_takeNumber_1 : decode cX3_takeNumber 1 = .ok (.invokevirtual 39, 3) := by decide +kernel
theorem dX3_takeNumber_4 : decode cX3_takeNumber 4 = .ok (.aload_n 0, 1) := by decide +kernel
theorem dX3_takeNumber_5 : decode cX3_takeNumber 5 = .ok (.iload_n 1, 1) := by decide +kernel
theorem dX3_takeNumber_6 : decode cX3_takeNumber 6 = .ok (.iload_n 2, 1) := by decide +kernel
theorem dX3_takeNumber_7 : decode cX3_takeNumber 7 = .ok (.invokevirtual 92, 3) := by decide +kernel
theorem dX3_takeNumber_10 : decode cX3_takeNumber 10 = .ok (.ireturn, 1) := by decide +kernel
theorem dX3_takeSemicolon_0 : decode cX3_takeSemicolon 0 = .ok (.aload_n 0, 1) := by decide +kernel
theorem dX3_takeSemicolon_1 : decode cX3_takeSemicolon 1 = .ok (.invokevirtual 39, 3) := by decide +kernel
theorem dX3_takeSemicolon_4 : decode cX3_takeSemicolon 4 = .ok (.aload_n 0, 1) := by decide +kernel
theorem dX3_takeSemicolon_5 : decode cX3_takeSemicolon 5 = .ok (.getfield 25, 3) := by decide +kernel
theorem dX3_takeSemicolon_8 : decode cX3_takeSemicolon 8 = .ok (.iconst 3, 1) := by decide +kernel
theorem dX3_takeSemicolon_9 : decode cX3_takeSemicolon 9 = .ok (.if_icmp .ne 7, 3) := by decide +kernel
theorem dX3_takeSemicolon_12 : decode cX3_takeSemicolon 12 = .ok (.iconst 1, 1) := by decide +kernel
theorem dX3_takeSemicolon_13 : decode cX3_takeSemicolon 13 = .ok (.goto 4, 3) := by decide +kernel
theorem dX3_takeSemicolon_16 : decode cX3_takeSemicolon 16 = .ok (.iconst 0, 1) := by decide +kernel
theorem dX3_takeSemicolon_17 : decode cX3_takeSemicolon 17 = .ok (.ireturn, 1) := by decide +kernel
theorem dX3_isNumber_0 : decode cX3_isNumber 0 = .ok (.aload_n 0, 1) := by decide +kernel
theorem dX3_isNumber_1 : decode cX3_isNumber 1 = .ok (.getfield 25, 3) := by decide +kernel
theorem dX3_isNumber_4 : decode cX3_isNumber 4 = .ok (.iconst 2, 1) := by decide +kernel
theorem dX3_isNumber_5 : decode cX3_isNumber 5 = .ok (.if_icmp .ne 19, 3) := by decide +kernel
theorem dX3_isNumber_8 : decode cX3_isNumber 8 = .ok (.aload_n 0, 1) := by decide +kernel
theorem dX3_isNumber_9 : decode cX3_isNumber 9 = .ok (.getfield 28, 3) := by decide +kernel
theorem dX3_isNumber_12 : decode cX3_isNumber 12 = .ok (.iload_n 1, 1) := by decide +kernel
theorem dX3_isNumber_13 : decode cX3_isNumber 13 = .ok (.iload_n 2, 1) := by decide +kernel
theorem dX3_isNumber_14 : decode cX3_isNumber 14 = .ok (.invokestatic 119, 3) := by decide +kernel
theorem dX3_isNumber_17 : decode cX3_isNumber 17 = .ok (.ifCond .ne 7, 3) := by decide +kernel
theorem dX3_isNumber_20 : decode cX3_isNumber 20 = .ok (.iconst 1, 1) := by decide +kernel
theorem dX3_isNumber_21 : decode cX3_isNumber 21 = .ok (.goto 4, 3) := by decide +kernel
theorem dX3_isNumber_24 : decode cX3_isNumber 24 = .ok (.iconst 0, 1) := by decide +kernel
theorem dX3_isNumber_25 : decode cX3_isNumber 25 = .ok (.ireturn, 1) := by decide +kernel
theorem dX3_isWord_0 : decode cX3_isWord 0 = .ok (.aload_n 0, 1) := by decide +kernel
theorem dX3_isWord_1 : decode cX3_isWord 1 = .ok (.getfield 25, 3) := by decide +kernel
theorem dX3_isWord_4 : decode cX3_isWord 4 = .ok (.iconst 1, 1) := by decide +kernel
theorem dX3_isWord_5 : decode cX3_isWord 5 = .ok (.if_icmp .ne 19, 3) := by decide +kernel
theorem dX3_isWord_8 : decode cX3_isWord 8 = .ok (.aload_n 0, 1) := by decide +kernel
theorem dX3_isWord_9 : decode cX3_isWord 9 = .ok (.getfield 22, 3) := by decide +kernel
theorem dX3_isWord_12 : decode cX3_isWord 12 = .ok (.aload_n 0, 1) := by decide +kernel
theorem dX3_isWord_13 : decode cX3_isWord 13 = .ok (.getfield 19, 3) := by decide +kernel
theorem dX3_isWord_16 : decode cX3_isWord 16 = .ok (.isub, 1) := by decide +kernel
theorem dX3_isWord_17 : decode cX3_isWord 17 = .ok (.aload_n 1, 1) := by decide +kernel
theorem dX3_isWord_18 : decode cX3_isWord 18 = .ok (.invokevirtual 123, 3) := by decide +kernel
theorem dX3_isWord_21 : decode cX3_isWord 21 = .ok (.if_icmp .eq 5, 3) := by decide +kernel
theorem dX3_isWord_24 : decode cX3_isWord 24 = .ok (.iconst 0, 1) := by decide +kernel
theorem dX3_isWord_25 : decode cX3_isWord 25 = .ok (.ireturn, 1) := by decide +kernel
theorem dX3_isWord_26 : decode cX3_isWord 26 = .ok (.iconst 0, 1) := by decide +kernel
theorem dX3_isWord_27 : decode cX3_isWord 27 = .ok (.istore_n 2, 1) := by decide +kernel
theorem dX3_isWord_28 : decode cX3_isWord 28 = .ok (.iload_n 2, 1) := by decide +kernel
theorem dX3_isWord_29 : decode cX3_isWord 29 = .ok (.aload_n 1, 1) := by decide +kernel
theorem dX3_isWord_30 : decode cX3_isWord 30 = .ok (.invokevirtual 123, 3) := by decide +kernel
theorem dX3_isWord_33 : decode cX3_isWord 33 = .ok (.if_icmp .ge 32, 3) := by decide +kernel
theorem dX3_isWord_36 : decode cX3_isWord 36 = .ok (.aload_n 0, 1) := by decide +kernel
theorem dX3_isWord_37 : decode cX3_isWord 37 = .ok (.getfield 9, 3) := by decide +kernel
theorem dX3_isWord_40 : decode cX3_isWord 40 = .ok (.aload_n 0, 1) := by decide +kernel
theorem dX3_isWord_41 : decode cX3_isWord 41 = .ok (.getfield 19, 3) := by decide +kernel
theorem dX3_isWord_44 : decode cX3_isWord 44 = .ok (.iload_n 2, 1) := by decide +kernel
theorem dX3_isWord_45 : decode cX3_isWord 45 = .ok (.iadd, 1) := by decide +kernel
theorem dX3_isWord_46 : decode cX3_isWord 46 = .ok (.invokestatic 128, 3) := by decide +kernel
theorem dX3_isWord_49 : decode cX3_isWord 49 = .ok (.aload_n 1, 1) := by decide +kernel
theorem dX3_isWord_50 : decode cX3_isWord 50 = .ok (.iload_n 2, 1) := by decide +kernel
theorem dX3_isWord_51 : decode cX3_isWord 51 = .ok (.invokevirtual 132, 3) := by decide +kernel
theorem dX3_isWord_54 : decode cX3_isWord 54 = .ok (.if_icmp .eq 5, 3) := by decide +kernel
theorem dX3_isWord_57 : decode cX3_isWord 57 = .ok (.iconst 0, 1) := by decide +kernel
theorem dX3_isWord_58 : decode cX3_isWord 58 = .ok (.ireturn, 1) := by decide +kernel
theorem dX3_isWord_59 : decode cX3_isWord 59 = .ok (.iinc 2 1, 3) := by decide +kernel
theorem dX3_isWord_62 : decode cX3_isWord 62 = .ok (.goto (-34), 3) := by decide +kernel
theorem dX3_isWord_65 : decode cX3_isWord 65 = .ok (.iconst 1, 1) := by decide +kernel
theorem dX3_isWord_66 : decode cX3_isWord 66 = .ok (.ireturn, 1) := by decide +kernel
theorem dX3_advance_0 : decode cX3_advance 0 = .ok (.aload_n 0, 1) := by decide +kernel
theorem dX3_advance_1 : decode cX3_advance 1 = .ok (.aload_n 0, 1) := by decide +kernel
theorem dX3_advance_2 : decode cX3_advance 2 = .ok (.aload_n 0, 1) := by decide +kernel
theorem dX3_advance_3 : decode cX3_advance 3 = .ok (.getfield 22, 3) := by decide +kernel
theorem dX3_advance_6 : decode cX3_advance 6 = .ok (.bipush 32, 2) := by decide +kernel
theorem dX3_advance_8 : decode cX3_advance 8 = .ok (.bipush 32, 2) := by decide +kernel
theorem dX3_advance_10 : decode cX3_advance 10 = .ok (.invokevirtual 136, 3) := by decide +kernel
theorem dX3_advance_13 : decode cX3_advance 13 = .ok (.putfield 19, 3) := by decide +kernel
theorem dX3_advance_16 : decode cX3_advance 16 = .ok (.aload_n 0, 1) := by decide +kernel
theorem dX3_advance_17 : decode cX3_advance 17 = .ok (.aload_n 0, 1) := by decide +kernel
theorem dX3_advance_18 : decode cX3_advance 18 = .ok (.getfield 19, 3) := by decide +kernel
theorem dX3_advance_21 : decode cX3_advance 21 = .ok (.iconst 1, 1) := by decide +kernel
theorem dX3_advance_22 : decode cX3_advance 22 = .ok (.iadd, 1) := by decide +kernel
theorem dX3_advance_23 : decode cX3_advance 23 = .ok (.putfield 22, 3) := by decide +kernel
theorem dX3_advance_26 : decode cX3_advance 26 = .ok (.aload_n 0, 1) := by decide +kernel
theorem dX3_advance_27 : decode cX3_advance 27 = .ok (.getfield 9, 3) := by decide +kernel
theorem dX3_advance_30 : decode cX3_advance 30 = .ok (.aload_n 0, 1) := by decide +kernel
theorem dX3_advance_31 : decode cX3_advance 31 = .ok (.getfield 19, 3) := by decide +kernel
theorem dX3_advance_34 : decode cX3_advance 34 = .ok (.invokestatic 128, 3) := by decide +kernel
theorem dX3_advance_37 : decode cX3_advance 37 = .ok (.istore_n 1, 1) := by decide +kernel
theorem dX3_advance_38 : decode cX3_advance 38 = .ok (.aload_n 0, 1) := by decide +kernel
theorem dX3_advance_39 : decode cX3_advance 39 = .ok (.getfield 19, 3) := by decide +kernel
theorem dX3_advance_42 : decode cX3_advance 42 = .ok (.aload_n 0, 1) := by decide +kernel
theorem dX3_advance_43 : decode cX3_advance 43 = .ok (.getfield 15, 3) := by decide +kernel
theorem dX3_advance_46 : decode cX3_advance 46 = .ok (.if_icmp .lt 19, 3) := by decide +kernel
theorem dX3_advance_49 : decode cX3_advance 49 = .ok (.aload_n 0, 1) := by decide +kernel
theorem dX3_advance_50 : decode cX3_advance 50 = .ok (.iconst 0, 1) := by decide +kernel
theorem dX3_advance_51 : decode cX3_advance 51 = .ok (.putfield 25, 3) := by decide +kernel
theorem dX3_advance_54 : decode cX3_advance 54 = .ok (.aload_n 0, 1) := by decide +kernel
theorem dX3_advance_55 : decode cX3_advance 55 = .ok (.aload_n 0, 1) := by decide +kernel
theorem dX3_advance_56 : decode cX3_advance 56 = .ok (.getfield 15, 3) := by decide +kernel
theorem dX3_advance_59 : decode cX3_advance 59 = .ok (.putfield 22, 3) := by decide +kernel
theorem dX3_advance_62 : decode cX3_advance 62 = .ok (.goto 153, 3) := by decide +kernel
theorem dX3_advance_65 : decode cX3_advance 65 = .ok (.iload_n 1, 1) := by decide +kernel
theorem dX3_advance_66 : decode cX3_advance 66 = .ok (.bipush 97, 2) := by decide +kernel
theorem dX3_advance_68 : decode cX3_advance 68 = .ok (.bipush 122, 2) := by decide +kernel
theorem dX3_advance_70 : decode cX3_advance 70 = .ok (.invokestatic 119, 3) := by decide +kernel
theorem dX3_advance_73 : decode cX3_advance 73 = .ok (.ifCond .ne 27, 3) := by decide +kernel
theorem dX3_advance_76 : decode cX3_advance 76 = .ok (.aload_n 0, 1) := by decide +kernel
theorem dX3_advance_77 : decode cX3_advance 77 = .ok (.iconst 1, 1) := by decide +kernel
theorem dX3_advance_78 : decode cX3_advance 78 = .ok (.putfield 25, 3) := by decide +kernel
theorem dX3_advance_81 : decode cX3_advance 81 = .ok (.aload_n 0, 1) := by decide +kernel
theorem dX3_advance_82 : decode cX3_advance 82 = .ok (.aload_n 0, 1) := by decide +kernel
theorem dX3_advance_83 : decode cX3_advance 83 = .ok (.aload_n 0, 1) := by decide +kernel
theorem dX3_advance_84 : decode cX3_advance 84 = .ok (.getfield 19, 3) := by decide +kernel
theorem dX3_advance_87 : decode cX3_advance 87 = .ok (.bipush 97, 2) := by decide +kernel
theorem dX3_advance_89 : decode cX3_advance 89 = .ok (.bipush 122, 2) := by decide +kernel
theorem dX3_advance_91 : decode cX3_advance 91 = .ok (.invokevirtual 136, 3) := by decide +kernel
theorem dX3_advance_94 : decode cX3_advance 94 = .ok (.putfield 22, 3) := by decide +kernel
theorem dX3_advance_97 : decode cX3_advance 97 = .ok (.goto 118, 3) := by decide +kernel
theorem dX3_advance_100 : decode cX3_advance 100 = .ok (.iload_n 1, 1) := by decide +kernel
theorem dX3_advance_101 : decode cX3_advance 101 = .ok (.bipush 48, 2) := by decide +kernel
theorem dX3_advance_103 : decode cX3_advance 103 = .ok (.bipush 57, 2) := by decide +kernel
theorem dX3_advance_105 : decode cX3_advance 105 = .ok (.invokestatic 119, 3) := by decide +kernel
theorem dX3_advance_108 : decode cX3_advance 108 = .ok (.ifCond .ne 92, 3) := by decide +kernel
theorem dX3_advance_111 : decode cX3_advance 111 = .ok (.aload_n 0, 1) := by decide +kernel
theorem dX3_advance_112 : decode cX3_advance 112 = .ok (.aload_n 0, 1) := by decide +kernel
theorem dX3_advance_113 : decode cX3_advance 113 = .ok (.aload_n 0, 1) := by decide +kernel
theorem dX3_advance_114 : decode cX3_advance 114 = .ok (.getfield 19, 3) := by decide +kernel
theorem dX3_advance_117 : decode cX3_advance 117 = .ok (.bipush 48, 2) := by decide +kernel
theorem dX3_advance_119 : decode cX3_advance 119 = .ok (.bipush 57, 2) := by decide +kernel
theorem dX3_advance_121 : decode cX3_advance 121 = .ok (.invokevirtual 136, 3) := by decide +kernel
theorem dX3_advance_124 : decode cX3_advance 124 = .ok (.putfield 22, 3) := by decide +kernel
theorem dX3_advance_127 : decode cX3_advance 127 = .ok (.aload_n 0, 1) := by decide +kernel
theorem dX3_advance_128 : decode cX3_advance 128 = .ok (.aload_n 0, 1) := by decide +kernel
theorem dX3_advance_129 : decode cX3_advance 129 = .ok (.getfield 22, 3) := by decide +kernel
theorem dX3_advance_132 : decode cX3_advance 132 = .ok (.aload_n 0, 1) := by decide +kernel
theorem dX3_advance_133 : decode cX3_advance 133 = .ok (.getfield 19, 3) := by decide +kernel
theorem dX3_advance_136 : decode cX3_advance 136 = .ok (.isub, 1) := by decide +kernel
theorem dX3_advance_137 : decode cX3_advance 137 = .ok (.iconst 2, 1) := by decide +kernel
theorem dX3_advance_138 : decode cX3_advance 138 = .ok (.if_icmp .gt 7, 3) := by decide +kernel
theorem dX3_advance_141 : decode cX3_advance 141 = .ok (.iconst 2, 1) := by decide +kernel
theorem dX3_advance_142 : decode cX3_advance 142 = .ok (.goto 4, 3) := by decide +kernel
theorem dX3_advance_145 : decode cX3_advance 145 = .ok (.iconst 4, 1) := by decide +kernel
theorem dX3_advance_146 : decode cX3_advance 146 = .ok (.putfield 25, 3) := by decide +kernel
theorem dX3_advance_149 : decode cX3_advance 149 = .ok (.aload_n 0, 1) := by decide +kernel
theorem dX3_advance_150 : decode cX3_advance 150 = .ok (.aload_n 0, 1) := by decide +kernel
theorem dX3_advance_151 : decode cX3_advance 151 = .ok (.getfield 22, 3) := by decide +kernel
theorem dX3_advance_154 : decode cX3_advance 154 = .ok (.aload_n 0, 1) := by decide +kernel
theorem dX3_advance_155 : decode cX3_advance 155 = .ok (.getfield 19, 3) := by decide +kernel
theorem dX3_advance_158 : decode cX3_advance 158 = .ok (.isub, 1) := by decide +kernel
theorem dX3_advance_159 : decode cX3_advance 159 = .ok (.iconst 1, 1) := by decide +kernel
theorem dX3_advance_160 : decode cX3_advance 160 = .ok (.if_icmp .ne 10, 3) := by decide +kernel
theorem dX3_advance_163 : decode cX3_advance 163 = .ok (.iload_n 1, 1) := by decide +kernel
theorem dX3_advance_164 : decode cX3_advance 164 = .ok (.bipush 48, 2) := by decide +kernel
theorem dX3_advance_166 : decode cX3_advance 166 = .ok (.isub, 1) := by decide +kernel
theorem dX3_advance_167 : decode cX3_advance 167 = .ok (.goto 27, 3) := by decide +kernel
theorem dX3_advance_170 : decode cX3_advance 170 = .ok (.bipush 10, 2) := by decide +kernel
theorem dX3_advance_172 : decode cX3_advance 172 = .ok (.iload_n 1, 1) := by decide +kernel
theorem dX3_advance_173 : decode cX3_advance 173 = .ok (.bipush 48, 2) := by decide +kernel
theorem dX3_advance_175 : decode cX3_advance 175 = .ok (.isub, 1) := by decide +kernel
theorem dX3_advance_176 : decode cX3_advance 176 = .ok (.imul, 1) := by decide +kernel
theorem dX3_advance_177 : decode cX3_advance 177 = .ok (.aload_n 0, 1) := by decide +kernel
theorem dX3_advance_178 : decode cX3_advance 178 = .ok (.getfield 9, 3) := by decide +kernel
theorem dX3_advance_181 : decode cX3_advance 181 = .ok (.aload_n 0, 1) := by decide +kernel
theorem dX3_advance_182 : decode cX3_advance 182 = .ok (.getfield 19, 3) := by decide +kernel
theorem dX3_advance_185 : decode cX3_advance 185 = .ok (.iconst 1, 1) := by decide +kernel
theorem dX3_advance_186 : decode cX3_advance 186 = .ok (.iadd, 1) := by decide +kernel
theorem dX3_advance_187 : decode cX3_advance 187 = .ok (.invokestatic 128, 3) := by decide +kernel
theorem dX3_advance_190 : decode cX3_advance 190 = .ok (.iadd, 1) := by decide +kernel
theorem dX3_advance_191 : decode cX3_advance 191 = .ok (.bipush 48, 2) := by decide +kernel
theorem dX3_advance_193 : decode cX3_advance 193 = .ok (.isub, 1) := by decide +kernel
theorem dX3_advance_194 : decode cX3_advance 194 = .ok (.putfield 28, 3) := by decide +kernel
theorem dX3_advance_197 : decode cX3_advance 197 = .ok (.goto 18, 3) := by decide +kernel
theorem dX3_advance_200 : decode cX3_advance 200 = .ok (.aload_n 0, 1) := by decide +kernel
theorem dX3_advance_201 : decode cX3_advance 201 = .ok (.iload_n 1, 1) := by decide +kernel
theorem dX3_advance_202 : decode cX3_advance 202 = .ok (.bipush 59, 2) := by decide +kernel
theorem dX3_advance_204 : decode cX3_advance 204 = .ok (.if_icmp .ne 7, 3) := by decide +kernel
theorem dX3_advance_207 : decode cX3_advance 207 = .ok (.iconst 3, 1) := by decide +kernel
theorem dX3_advance_208 : decode cX3_advance 208 = .ok (.goto 4, 3) := by decide +kernel
theorem dX3_advance_211 : decode cX3_advance 211 = .ok (.iconst 4, 1) := by decide +kernel
theorem dX3_advance_212 : decode cX3_advance 212 = .ok (.putfield 25, 3) := by decide +kernel
theorem dX3_advance_215 : decode cX3_advance 215 = .ok (.return_, 1) := by decide +kernel
theorem dX3_runEnd_0 : decode cX3_runEnd 0 = .ok (.iload_n 1, 1) := by decide +kernel
theorem dX3_runEnd_1 : decode cX3_runEnd 1 = .ok (.istore 4, 2) := by decide +kernel
theorem dX3_runEnd_3 : decode cX3_runEnd 3 = .ok (.iload 4, 2) := by decide +kernel
theorem dX3_runEnd_5 : decode cX3_runEnd 5 = .ok (.ifCond .lt 50, 3) := by decide +kernel
theorem dX3_runEnd_8 : decode cX3_runEnd 8 = .ok (.iload 4, 2) := by decide +kernel
theorem dX3_runEnd_10 : decode cX3_runEnd 10 = .ok (.aload_n 0, 1) := by decide +kernel
theorem dX3_runEnd_11 : decode cX3_runEnd 11 = .ok (.getfield 15, 3) := by decide +kernel
theorem dX3_runEnd_14 : decode cX3_runEnd 14 = .ok (.if_icmp .ge 41, 3) := by decide +kernel
theorem dX3_runEnd_17 : decode cX3_runEnd 17 = .ok (.iload 4, 2) := by decide +kernel
theorem dX3_runEnd_19 : decode cX3_runEnd 19 = .ok (.aload_n 0, 1) := by decide +kernel
theorem dX3_runEnd_20 : decode cX3_runEnd 20 = .ok (.getfield 9, 3) := by decide +kernel
theorem dX3_runEnd_23 : decode cX3_runEnd 23 = .ok (.arraylength, 1) := by decide +kernel
theorem dX3_runEnd_24 : decode cX3_runEnd 24 = .ok (.if_icmp .ge 31, 3) := by decide +kernel
theorem dX3_runEnd_27 : decode cX3_runEnd 27 = .ok (.aload_n 0, 1) := by decide +kernel
theorem dX3_runEnd_28 : decode cX3_runEnd 28 = .ok (.getfield 9, 3) := by decide +kernel
theorem dX3_runEnd_31 : decode cX3_runEnd 31 = .ok (.iload 4, 2) := by decide +kernel
theorem dX3_runEnd_33 : decode cX3_runEnd 33 = .ok (.iaload, 1) := by decide +kernel
theorem dX3_runEnd_34 : decode cX3_runEnd 34 = .ok (.iload_n 2, 1) := by decide +kernel
theorem dX3_runEnd_35 : decode cX3_runEnd 35 = .ok (.if_icmp .lt 20, 3) := by decide +kernel
theorem dX3_runEnd_38 : decode cX3_runEnd 38 = .ok (.aload_n 0, 1) := by decide +kernel
theorem dX3_runEnd_39 : decode cX3_runEnd 39 = .ok (.getfield 9, 3) := by decide +kernel
theorem dX3_runEnd_42 : decode cX3_runEnd 42 = .ok (.iload 4, 2) := by decide +kernel
theorem dX3_runEnd_44 : decode cX3_runEnd 44 = .ok (.iaload, 1) := by decide +kernel
theorem dX3_runEnd_45 : decode cX3_runEnd 45 = .ok (.iload_n 3, 1) := by decide +kernel
theorem dX3_runEnd_46 : decode cX3_runEnd 46 = .ok (.if_icmp .gt 9, 3) := by decide +kernel
theorem dX3_runEnd_49 : decode cX3_runEnd 49 = .ok (.iinc 4 1, 3) := by decide +kernel
theorem dX3_runEnd_52 : decode cX3_runEnd 52 = .ok (.goto (-49), 3) := by decide +kernel
theorem dX3_runEnd_55 : decode cX3_runEnd 55 = .ok (.iload 4, 2) := by decide +kernel
theorem dX3_runEnd_57 : decode cX3_runEnd 57 = .ok (.ireturn, 1) := by decide +kernel
theorem dX4_init_0 : decode cX4_init 0 = .ok (.aload_n 0, 1) := by decide +kernel
theorem dX4_init_1 : decode cX4_init 1 = .ok (.invokespecial 3, 3) := by decide +kernel
theorem dX4_init_4 : decode cX4_init 4 = .ok (.aload_n 0, 1) := by decide +kernel
theorem dX4_init_5 : decode cX4_init 5 = .ok (.iconst 5, 1) := by decide +kernel
theorem dX4_init_6 : decode cX4_init 6 = .ok (.newarray .int, 2) := by decide +kernel
theorem dX4_init_8 : decode cX4_init 8 = .ok (.putfield 9, 3) := by decide +kernel
theorem dX4_init_11 : decode cX4_init 11 = .ok (.aload_n 0, 1) := by decide +kernel
theorem dX4_init_12 : decode cX4_init 12 = .ok (.iconst 0, 1) := by decide +kernel
theorem dX4_init_13 : decode cX4_init 13 = .ok (.putfield 15, 3) := by decide +kernel
theorem dX4_init_16 : decode cX4_init 16 = .ok (.aload_n 0, 1) := by decide +kernel
theorem dX4_init_17 : decode cX4_init 17 = .ok (.iconst 0, 1) := by decide +kernel
theorem dX4_init_18 : decode cX4_init 18 = .ok (.putfield 19, 3) := by decide +kernel
theorem dX4_init_21 : decode cX4_init 21 = .ok (.aload_n 0, 1) := by decide +kernel
theorem dX4_init_22 : decode cX4_init 22 = .ok (.iconst 0, 1) := by decide +kernel
theorem dX4_init_23 : decode cX4_init 23 = .ok (.putfield 22, 3) := by decide +kernel
theorem dX4_init_26 : decode cX4_init 26 = .ok (.aload_n 0, 1) := by decide +kernel
theorem dX4_init_27 : decode cX4_init 27 = .ok (.iconst 0, 1) := by decide +kernel
theorem dX4_init_28 : decode cX4_init 28 = .ok (.putfield 25, 3) := by decide +kernel
theorem dX4_init_31 : decode cX4_init 31 = .ok (.aload_n 0, 1) := by decide +kernel
theorem dX4_init_32 : decode cX4_init 32 = .ok (.iconst 0, 1) := by decide +kernel
theorem dX4_init_33 : decode cX4_init 33 = .ok (.putfield 28, 3) := by decide +kernel
theorem dX4_init_36 : decode cX4_init 36 = .ok (.aload_n 0, 1) := by decide +kernel
theorem dX4_init_37 : decode cX4_init 37 = .ok (.iconst 0, 1) := by decide +kernel
theorem dX4_init_38 : decode cX4_init 38 = .ok (.putfield 31, 3) := by decide +kernel
theorem dX4_init_41 : decode cX4_init 41 = .ok (.aload_n 0, 1) := by decide +kernel
theorem dX4_init_42 : decode cX4_init 42 = .ok (.iconst 0, 1) := by decide +kernel
theorem dX4_init_43 : decode cX4_init 43 = .ok (.putfield 34, 3) := by decide +kernel
theorem dX4_init_46 : decode cX4_init 46 = .ok (.return_, 1) := by decide +kernel
theorem dX4_fewest_0 : decode cX4_fewest 0 = .ok (.aload_n 0, 1) := by decide +kernel
theorem dX4_fewest_1 : decode cX4_fewest 1 = .ok (.iload_n 2, 1) := by decide +kernel
theorem dX4_fewest_2 : decode cX4_fewest 2 = .ok (.putfield 19, 3) := by decide +kernel
theorem dX4_fewest_5 : decode cX4_fewest 5 = .ok (.aload_n 0, 1) := by decide +kernel
theorem dX4_fewest_6 : decode cX4_fewest 6 = .ok (.iload_n 3, 1) := by decide +kernel
theorem dX4_fewest_7 : decode cX4_fewest 7 = .ok (.putfield 22, 3) := by decide +kernel
theorem dX4_fewest_10 : decode cX4_fewest 10 = .ok (.aload_n 0, 1) := by decide +kernel
theorem dX4_fewest_11 : decode cX4_fewest 11 = .ok (.aload_n 1, 1) := by decide +kernel
theorem dX4_fewest_12 : decode cX4_fewest 12 = .ok (.iload_n 2, 1) := by decide +kernel
theorem dX4_fewest_13 : decode cX4_fewest 13 = .ok (.invokevirtual 37, 3) := by decide +kernel
theorem dX4_fewest_16 : decode cX4_fewest 16 = .ok (.putfield 25, 3) := by decide +kernel
theorem dX4_fewest_19 : decode cX4_fewest 19 = .ok (.aload_n 0, 1) := by decide +kernel
theorem dX4_fewest_20 : decode cX4_fewest 20 = .ok (.iload 4, 2) := by decide +kernel
theorem dX4_fewest_22 : decode cX4_fewest 22 = .ok (.putfield 28, 3) := by decide +kernel
theorem dX4_fewest_25 : decode cX4_fewest 25 = .ok (.aload_n 0, 1) := by decide +kernel
theorem dX4_fewest_26 : decode cX4_fewest 26 = .ok (.iload 5, 2) := by decide +kernel
theorem dX4_fewest_28 : decode cX4_fewest 28 = .ok (.putfield 31, 3) := by decide +kernel
theorem dX4_fewest_31 : decode cX4_fewest 31 = .ok (.aload_n 0, 1) := by decide +kernel
theorem dX4_fewest_32 : decode cX4_fewest 32 = .ok (.aload_n 1, 1) := by decide +kernel
theorem dX4_fewest_33 : decode cX4_fewest 33 = .ok (.iload 4, 2) := by decide +kernel
theorem dX4_fewest_35 : decode cX4_fewest 35 = .ok (.invokevirtual 37, 3) := by decide +kernel
theorem dX4_fewest_38 : decode cX4_fewest 38 = .ok (.putfield 34, 3) := by decide +kernel
theorem dX4_fewest_41 : decode cX4_fewest 41 = .ok (.aload_n 1, 1) := by decide +kernel
theorem dX4_fewest_42 : decode cX4_fewest 42 = .ok (.getfield 43, 3) := by decide +kernel
theorem dX4_fewest_45 : decode cX4_fewest 45 = .ok (.astore 6, 2) := by decide +kernel
theorem dX4_fewest_47 : decode cX4_fewest 47 = .ok (.iconst 0, 1) := by decide +kernel
theorem dX4_fewest_48 : decode cX4_fewest 48 = .ok (.istore 7, 2) := by decide +kernel
theorem dX4_fewest_50 : decode cX4_fewest 50 = .ok (.iload 7, 2) := by decide +kernel
theorem dX4_fewest_52 : decode cX4_fewest 52 = .ok (.iconst 5, 1) := by decide +kernel
theorem dX4_fewest_53 : decode cX4_fewest 53 = .ok (.if_icmp .gt 49, 3) := by decide +kernel
theorem dX4_fewest_56 : decode cX4_fewest 56 = .ok (.aload_n 0, 1) := by decide +kernel
theorem dX4_fewest_57 : decode cX4_fewest 57 = .ok (.iload 7, 2) := by decide +kernel
theorem dX4_fewest_59 : decode cX4_fewest 59 = .ok (.putfield 15, 3) := by decide +kernel
theorem dX4_fewest_62 : decode cX4_fewest 62 = .ok (.aload_n 0, 1) := by decide +kernel
theorem dX4_fewest_63 : decode cX4_fewest 63 = .ok (.aload_n 1, 1) := by decide +kernel
theorem dX4_fewest_64 : decode cX4_fewest 64 = .ok (.iload 7, 2) := by decide +kernel
theorem dX4_fewest_66 : decode cX4_fewest 66 = .ok (.aload 6, 2) := by decide +kernel
theorem dX4_fewest_68 : decode cX4_fewest 68 = .ok (.getfield 47, 3) := by decide +kernel
theorem dX4_fewest_71 : decode cX4_fewest 71 = .ok (.aload 6, 2) := by decide +kernel
theorem dX4_fewest_73 : decode cX4_fewest 73 = .ok (.getfield 52, 3) := by decide +kernel
theorem dX4_fewest_76 : decode cX4_fewest 76 = .ok (.aload_n 1, 1) := by decide +kernel
theorem dX4_fewest_77 : decode cX4_fewest 77 = .ok (.iload_n 2, 1) := by decide +kernel
theorem dX4_fewest_78 : decode cX4_fewest 78 = .ok (.invokevirtual 55, 3) := by decide +kernel
theorem dX4_fewest_81 : decode cX4_fewest 81 = .ok (.aload_n 1, 1) := by decide +kernel
theorem dX4_fewest_82 : decode cX4_fewest 82 = .ok (.iload 4, 2) := by decide +kernel
theorem dX4_fewest_84 : decode cX4_fewest 84 = .ok (.invokevirtual 55, 3) := by decide +kernel
theorem dX4_fewest_87 : decode cX4_fewest 87 = .ok (.invokevirtual 58, 3) := by decide +kernel
theorem dX4_fewest_90 : decode cX4_fewest 90 = .ok (.ifCond .eq 6, 3) := by decide +kernel
theorem dX4_fewest_93 : decode cX4_fewest 93 = .ok (.iload 7, 2) := by decide +kernel
theorem dX4_fewest_95 : decode cX4_fewest 95 = .ok (.ireturn, 1) := by decide +kernel
theorem dX4_fewest_96 : decode cX4_fewest 96 = .ok (.iinc 7 1, 3) := by decide +kernel
theorem dX4_fewest_99 : decode cX4_fewest 99 = .ok (.goto (-49), 3) := by decide +kernel
theorem dX4_fewest_102 : decode cX4_fewest 102 = .ok (.iconst (-1), 1) := by decide +kernel
theorem dX4_fewest_103 : decode cX4_fewest 103 = .ok (.ireturn, 1) := by decide +kernel
theorem dX4_reaches_0 : decode cX4_reaches 0 = .ok (.iload_n 2, 1) := by decide +kernel
theorem dX4_reaches_1 : decode cX4_reaches 1 = .ok (.ifCond .le 8, 3) := by decide +kernel
theorem dX4_reaches_4 : decode cX4_reaches 4 = .ok (.iload_n 2, 1) := by decide +kernel
theorem dX4_reaches_5 : decode cX4_reaches 5 = .ok (.iconst 5, 1) := by decide +kernel
theorem dX4_reaches_6 : decode cX4_reaches 6 = .ok (.if_icmp .le 55, 3) := by decide +kernel
theorem dX4_reaches_9 : decode cX4_reaches 9 = .ok (.iload_n 2, 1) := by decide +kernel
theorem dX4_reaches_10 : decode cX4_reaches 10 = .ok (.ifCond .ne 49, 3) := by decide +kernel
theorem dX4_reaches_13 : decode cX4_reaches 13 = .ok (.aload_n 0, 1) := by decide +kernel
theorem dX4_reaches_14 : decode cX4_reaches 14 = .ok (.aload_n 1, 1) := by decide +kernel
theorem dX4_reaches_15 : decode cX4_reaches 15 = .ok (.aload_n 0, 1) := by decide +kernel
theorem dX4_reaches_16 : decode cX4_reaches 16 = .ok (.getfield 19, 3) := by decide +kernel
theorem dX4_reaches_19 : decode cX4_reaches 19 = .ok (.aload_n 0, 1) := by decide +kernel
theorem dX4_reaches_20 : decode cX4_reaches 20 = .ok (.getfield 22, 3) := by decide +kernel
theorem dX4_reaches_23 : decode cX4_reaches 23 = .ok (.iload_n 3, 1) := by decide +kernel
theorem dX4_reaches_24 : decode cX4_reaches 24 = .ok (.iload 4, 2) := by decide +kernel
theorem dX4_reaches_26 : decode cX4_reaches 26 = .ok (.iload 5, 2) := by decide +kernel
theorem dX4_reaches_28 : decode cX4_reaches 28 = .ok (.invokevirtual 62, 3) := by decide +kernel
theorem dX4_reaches_31 : decode cX4_reaches 31 = .ok (.ifCond .eq 28, 3) := by decide +kernel
theorem dX4_reaches_34 : decode cX4_reaches 34 = .ok (.aload_n 0, 1) := by decide +kernel
theorem dX4_reaches_35 : decode cX4_reaches 35 = .ok (.aload_n 1, 1) := by decide +kernel
theorem dX4_reaches_36 : decode cX4_reaches 36 = .ok (.aload_n 0, 1) := by decide +kernel
theorem dX4_reaches_37 : decode cX4_reaches 37 = .ok (.getfield 28, 3) := by decide +kernel
theorem dX4_reaches_40 : decode cX4_reaches 40 = .ok (.aload_n 0, 1) := by decide +kernel
theorem dX4_reaches_41 : decode cX4_reaches 41 = .ok (.getfield 31, 3) := by decide +kernel
theorem dX4_reaches_44 : decode cX4_reaches 44 = .ok (.iload_n 3, 1) := by decide +kernel
theorem dX4_reaches_45 : decode cX4_reaches 45 = .ok (.iload 4, 2) := by decide +kernel
theorem dX4_reaches_47 : decode cX4_reaches 47 = .ok (.iload 6, 2) := by decide +kernel
theorem dX4_reaches_49 : decode cX4_reaches 49 = .ok (.invokevirtual 62, 3) := by decide +kernel
theorem dX4_reaches_52 : decode cX4_reaches 52 = .ok (.ifCond .eq 7, 3) := by decide +kernel
theorem dX4_reaches_55 : decode cX4_reaches 55 = .ok (.iconst 1, 1) := by decide +kernel
theorem dX4_reaches_56 : decode cX4_reaches 56 = .ok (.goto 4, 3) := by decide +kernel
theorem dX4_reaches_59 : decode cX4_reaches 59 = .ok (.iconst 0, 1) := by decide +kernel
theorem dX4_reaches_60 : decode cX4_reaches 60 = .ok (.ireturn, 1) := by decide +kernel
theorem dX4_reaches_61 : decode cX4_reaches 61 = .ok (.iconst 0, 1) := by decide +kernel
theorem dX4_reaches_62 : decode cX4_reaches 62 = .ok (.istore 7, 2) := by decide +kernel
theorem dX4_reaches_64 : decode cX4_reaches 64 = .ok (.iload 7, 2) := by decide +kernel
theorem dX4_reaches_66 : decode cX4_reaches 66 = .ok (.iconst 5, 1) := by decide +kernel
theorem dX4_reaches_67 : decode cX4_reaches 67 = .ok (.if_icmp .ge 88, 3) := by decide +kernel
theorem dX4_reaches_70 : decode cX4_reaches 70 = .ok (.iload_n 3, 1) := by decide +kernel
theorem dX4_reaches_71 : decode cX4_reaches 71 = .ok (.iload 7, 2) := by decide +kernel
theorem dX4_reaches_73 : decode cX4_reaches 73 = .ok (.invokestatic 65, 3) := by decide +kernel
theorem dX4_reaches_76 : decode cX4_reaches 76 = .ok (.istore 8, 2) := by decide +kernel
theorem dX4_reaches_78 : decode cX4_reaches 78 = .ok (.iload 4, 2) := by decide +kernel
theorem dX4_reaches_80 : decode cX4_reaches 80 = .ok (.iload 7, 2) := by decide +kernel
theorem dX4_reaches_82 : decode cX4_reaches 82 = .ok (.invokestatic 69, 3) := by decide +kernel
theorem dX4_reaches_85 : decode cX4_reaches 85 = .ok (.istore 9, 2) := by decide +kernel
theorem dX4_reaches_87 : decode cX4_reaches 87 = .ok (.iload 5, 2) := by decide +kernel
theorem dX4_reaches_89 : decode cX4_reaches 89 = .ok (.aload_n 0, 1) := by decide +kernel
theorem dX4_reaches_90 : decode cX4_reaches 90 = .ok (.getfield 25, 3) := by decide +kernel
theorem dX4_reaches_93 : decode cX4_reaches 93 = .ok (.iload 9, 2) := by decide +kernel
theorem dX4_reaches_95 : decode cX4_reaches 95 = .ok (.invokestatic 72, 3) := by decide +kernel
theorem dX4_reaches_98 : decode cX4_reaches 98 = .ok (.istore 10, 2) := by decide +kernel
theorem dX4_reaches_100 : decode cX4_reaches 100 = .ok (.iload 6, 2) := by decide +kernel
theorem dX4_reaches_102 : decode cX4_reaches 102 = .ok (.aload_n 0, 1) := by decide +kernel
theorem dX4_reaches_103 : decode cX4_reaches 103 = .ok (.getfield 34, 3) := by decide +kernel
theorem dX4_reaches_106 : decode cX4_reaches 106 = .ok (.iload 9, 2) := by decide +kernel
theorem dX4_reaches_108 : decode cX4_reaches 108 = .ok (.invokestatic 72, 3) := by decide +kernel
theorem dX4_reaches_111 : decode cX4_reaches 111 = .ok (.istore 11, 2) := by decide +kernel
theorem dX4_reaches_113 : decode cX4_reaches 113 = .ok (.aload_n 0, 1) := by decide +kernel
theorem dX4_reaches_114 : decode cX4_reaches 114 = .ok (.getfield 9, 3) := by decide +kernel
theorem dX4_reaches_117 : decode cX4_reaches 117 = .ok (.aload_n 0, 1) := by decide +kernel
theorem dX4_reaches_118 : decode cX4_reaches 118 = .ok (.getfield 15, 3) := by decide +kernel
theorem dX4_reaches_121 : decode cX4_reaches 121 = .ok (.iload_n 2, 1) := by decide +kernel
theorem dX4_reaches_122 : decode cX4_reaches 122 = .ok (.isub, 1) := by decide +kernel
theorem dX4_reaches_123 : decode cX4_reaches 123 = .ok (.iload 7, 2) := by decide +kernel
theorem dX4_reaches_125 : decode cX4_reaches 125 = .ok (.invokestatic 76, 3) := by decide +kernel
theorem dX4_reaches_128 : decode cX4_reaches 128 = .ok (.aload_n 0, 1) := by decide +kernel
theorem dX4_reaches_129 : decode cX4_reaches 129 = .ok (.aload_n 1, 1) := by decide +kernel
theorem dX4_reaches_130 : decode cX4_reaches 130 = .ok (.iload_n 2, 1) := by decide +kernel
theorem dX4_reaches_131 : decode cX4_reaches 131 = .ok (.iconst 1, 1) := by decide +kernel
theorem dX4_reaches_132 : decode cX4_reaches 132 = .ok (.isub, 1) := by decide +kernel
theorem dX4_reaches_133 : decode cX4_reaches 133 = .ok (.iload 8, 2) := by decide +kernel
theorem dX4_reaches_135 : decode cX4_reaches 135 = .ok (.iload 9, 2) := by decide +kernel
theorem dX4_reaches_137 : decode cX4_reaches 137 = .ok (.iload 10, 2) := by decide +kernel
theorem dX4_reaches_139 : decode cX4_reaches 139 = .ok (.iload 11, 2) := by decide +kernel
theorem dX4_reaches_141 : decode cX4_reaches 141 = .ok (.invokevirtual 58, 3) := by decide +kernel
theorem dX4_reaches_144 : decode cX4_reaches 144 = .ok (.ifCond .eq 5, 3) := by decide +kernel
theorem dX4_reaches_147 : decode cX4_reaches 147 = .ok (.iconst 1, 1) := by decide +kernel
theorem dX4_reaches_148 : decode cX4_reaches 148 = .ok (.ireturn, 1) := by decide +kernel
theorem dX4_reaches_149 : decode cX4_reaches 149 = .ok (.iinc 7 1, 3) := by decide +kernel
theorem dX4_reaches_152 : decode cX4_reaches 152 = .ok (.goto (-88), 3) := by decide +kernel
theorem dX4_reaches_155 : decode cX4_reaches 155 = .ok (.iconst 0, 1) := by decide +kernel
theorem dX4_reaches_156 : decode cX4_reaches 156 = .ok (.ireturn, 1) := by decide +kernel
theorem dX4_isHigh_0 : decode cX4_isHigh 0 = .ok (.iload 4, 2) := by decide +kernel
theorem dX4_isHigh_2 : decode cX4_isHigh 2 = .ok (.iload 5, 2) := by decide +kernel
theorem dX4_isHigh_4 : decode cX4_isHigh 4 = .ok (.aload_n 1, 1) := by decide +kernel
theorem dX4_isHigh_5 : decode cX4_isHigh 5 = .ok (.iload_n 2, 1) := by decide +kernel
theorem dX4_isHigh_6 : decode cX4_isHigh 6 = .ok (.invokevirtual 80, 3) := by decide +kernel
theorem dX4_isHigh_9 : decode cX4_isHigh 9 = .ok (.invokestatic 83, 3) := by decide +kernel
theorem dX4_isHigh_12 : decode cX4_isHigh 12 = .ok (.istore 7, 2) := by decide +kernel
theorem dX4_isHigh_14 : decode cX4_isHigh 14 = .ok (.aload_n 1, 1) := by decide +kernel
theorem dX4_isHigh_15 : decode cX4_isHigh 15 = .ok (.iload_n 2, 1) := by decide +kernel
theorem dX4_isHigh_16 : decode cX4_isHigh 16 = .ok (.iload 7, 2) := by decide +kernel
theorem dX4_isHigh_18 : decode cX4_isHigh 18 = .ok (.iload 6, 2) := by decide +kernel
theorem dX4_isHigh_20 : decode cX4_isHigh 20 = .ok (.aload_n 1, 1) := by decide +kernel
theorem dX4_isHigh_21 : decode cX4_isHigh 21 = .ok (.getfield 43, 3) := by decide +kernel
theorem dX4_isHigh_24 : decode cX4_isHigh 24 = .ok (.getfield 86, 3) := by decide +kernel
theorem dX4_isHigh_27 : decode cX4_isHigh 27 = .ok (.aload_n 0, 1) := by decide +kernel
theorem dX4_isHigh_28 : decode cX4_isHigh 28 = .ok (.getfield 15, 3) := by decide +kernel
theorem dX4_isHigh_31 : decode cX4_isHigh 31 = .ok (.iadd, 1) := by decide +kernel
theorem dX4_isHigh_32 : decode cX4_isHigh 32 = .ok (.invokevirtual 89, 3) := by decide +kernel
theorem dX4_isHigh_35 : decode cX4_isHigh 35 = .ok (.iload_n 3, 1) := by decide +kernel
theorem dX4_isHigh_36 : decode cX4_isHigh 36 = .ok (.if_icmp .ne 7, 3) := by decide +kernel
theorem dX4_isHigh_39 : decode cX4_isHigh 39 = .ok (.iconst 1, 1) := by decide +kernel
theorem dX4_isHigh_40 : decode cX4_isHigh 40 = .ok (.goto 4, 3) := by decide +kernel
theorem dX4_isHigh_43 : decode cX4_isHigh 43 = .ok (.iconst 0, 1) := by decide +kernel
theorem dX4_isHigh_44 : decode cX4_isHigh 44 = .ok (.ireturn, 1) := by decide +kernel
theorem dX5_init_0 : decode cX5_init 0 = .ok (.aload_n 0, 1) := by decide +kernel
theorem dX5_init_1 : decode cX5_init 1 = .ok (.invokespecial 1, 3) := by decide +kernel
theorem dX5_init_4 : decode cX5_init 4 = .ok (.aload_n 0, 1) := by decide +kernel
theorem dX5_init_5 : decode cX5_init 5 = .ok (.iconst 0, 1) := by decide +kernel
theorem dX5_init_6 : decode cX5_init 6 = .ok (.putfield 7, 3) := by decide +kernel
theorem dX5_init_9 : decode cX5_init 9 = .ok (.aload_n 0, 1) := by decide +kernel
theorem dX5_init_10 : decode cX5_init 10 = .ok (.iload_n 1, 1) := by decide +kernel
theorem dX5_init_11 : decode cX5_init 11 = .ok (.iconst 0, 1) := by decide +kernel
theorem dX5_init_12 : decode cX5_init 12 = .ok (.invokestatic 13, 3) := by decide +kernel
theorem dX5_init_15 : decode cX5_init 15 = .ok (.putfield 19, 3) := by decide +kernel
theorem dX5_init_18 : decode cX5_init 18 = .ok (.aload_n 0, 1) := by decide +kernel
theorem dX5_init_19 : decode cX5_init 19 = .ok (.iload_n 2, 1) := by decide +kernel
theorem dX5_init_20 : decode cX5_init 20 = .ok (.iconst 0, 1) := by decide +kernel
theorem dX5_init_21 : decode cX5_init 21 = .ok (.invokestatic 13, 3) := by decide +kernel
theorem dX5_init_24 : decode cX5_init 24 = .ok (.putfield 22, 3) := by decide +kernel
theorem dX5_init_27 : decode cX5_init 27 = .ok (.aload_n 0, 1) := by decide +kernel
theorem dX5_init_28 : decode cX5_init 28 = .ok (.aload_n 0, 1) := by decide +kernel
theorem dX5_init_29 : decode cX5_init 29 = .ok (.getfield 19, 3) := by decide +kernel
theorem dX5_init_32 : decode cX5_init 32 = .ok (.aload_n 0, 1) := by decide +kernel
theorem dX5_init_33 : decode cX5_init 33 = .ok (.getfield 22, 3) := by decide +kernel
theorem dX5_init_36 : decode cX5_init 36 = .ok (.imul, 1) := by decide +kernel
theorem dX5_init_37 : decode cX5_init 37 = .ok (.newarray .int, 2) := by decide +kernel
theorem dX5_init_39 : decode cX5_init 39 = .ok (.putfield 25, 3) := by decide +kernel
theorem dX5_init_42 : decode cX5_init 42 = .ok (.return_, 1) := by decide +kernel
theorem dX5_isFull_0 : decode cX5_isFull 0 = .ok (.aload_n 0, 1) := by decide +kernel
theorem dX5_isFull_1 : decode cX5_isFull 1 = .ok (.getfield 7, 3) := by decide +kernel
theorem dX5_isFull_4 : decode cX5_isFull 4 = .ok (.aload_n 0, 1) := by decide +kernel
theorem dX5_isFull_5 : decode cX5_isFull 5 = .ok (.getfield 22, 3) := by decide +kernel
theorem dX5_isFull_8 : decode cX5_isFull 8 = .ok (.if_icmp .lt 7, 3) := by decide +kernel
theorem dX5_isFull_11 : decode cX5_isFull 11 = .ok (.iconst 1, 1) := by decide +kernel
theorem dX5_isFull_12 : decode cX5_isFull 12 = .ok (.goto 4, 3) := by decide +kernel
theorem dX5_isFull_15 : decode cX5_isFull 15 = .ok (.iconst 0, 1) := by decide +kernel
theorem dX5_isFull_16 : decode cX5_isFull 16 = .ok (.ireturn, 1) := by decide +kernel
theorem dX5_append_0 : decode cX5_append 0 = .ok (.aload_n 0, 1) := by decide +kernel
theorem dX5_append_1 : decode cX5_append 1 = .ok (.getfield 7, 3) := by decide +kernel
theorem dX5_append_4 : decode cX5_append 4 = .ok (.aload_n 0, 1) := by decide +kernel
theorem dX5_append_5 : decode cX5_append 5 = .ok (.getfield 19, 3) := by decide +kernel
theorem dX5_append_8 : decode cX5_append 8 = .ok (.imul, 1) := by decide +kernel
theorem dX5_append_9 : decode cX5_append 9 = .ok (.istore 6, 2) := by decide +kernel
theorem dX5_append_11 : decode cX5_append 11 = .ok (.aload_n 0, 1) := by decide +kernel
theorem dX5_append_12 : decode cX5_append 12 = .ok (.getfield 25, 3) := by decide +kernel
theorem dX5_append_15 : decode cX5_append 15 = .ok (.iload 6, 2) := by decide +kernel
theorem dX5_append_17 : decode cX5_append 17 = .ok (.iload_n 1, 1) := by decide +kernel
theorem dX5_append_18 : decode cX5_append 18 = .ok (.invokestatic 29, 3) := by decide +kernel
theorem dX5_append_21 : decode cX5_append 21 = .ok (.aload_n 0, 1) := by decide +kernel
theorem dX5_append_22 : decode cX5_append 22 = .ok (.getfield 25, 3) := by decide +kernel
theorem dX5_append_25 : decode cX5_append 25 = .ok (.iload 6, 2) := by decide +kernel
theorem dX5_append_27 : decode cX5_append 27 = .ok (.iconst 1, 1) := by decide +kernel
theorem dX5_append_28 : decode cX5_append 28 = .ok (.iadd, 1) := by decide +kernel
theorem dX5_append_29 : decode cX5_append 29 = .ok (.iload_n 2, 1) := by decide +kernel
theorem dX5_append_30 : decode cX5_append 30 = .ok (.invokestatic 29, 3) := by decide +kernel
theorem dX5_append_33 : decode cX5_append 33 = .ok (.aload_n 0, 1) := by decide +kernel
theorem dX5_append_34 : decode cX5_append 34 = .ok (.getfield 25, 3) := by decide +kernel
theorem dX5_append_37 : decode cX5_append 37 = .ok (.iload 6, 2) := by decide +kernel
theorem dX5_append_39 : decode cX5_append 39 = .ok (.iconst 2, 1) := by decide +kernel
theorem dX5_append_40 : decode cX5_append 40 = .ok (.iadd, 1) := by decide +kernel
theorem dX5_append_41 : decode cX5_append 41 = .ok (.iload_n 3, 1) := by decide +kernel
theorem dX5_append_42 : decode cX5_append 42 = .ok (.invokestatic 29, 3) := by decide +kernel
theorem dX5_append_45 : decode cX5_append 45 = .ok (.aload_n 0, 1) := by decide +kernel
theorem dX5_append_46 : decode cX5_append 46 = .ok (.getfield 25, 3) := by decide +kernel
theorem dX5_append_49 : decode cX5_append 49 = .ok (.iload 6, 2) := by decide +kernel
theorem dX5_append_51 : decode cX5_append 51 = .ok (.iconst 3, 1) := by decide +kernel
theorem dX5_append_52 : decode cX5_append 52 = .ok (.iadd, 1) := by decide +kernel
theorem dX5_append_53 : decode cX5_append 53 = .ok (.iload 4, 2) := by decide +kernel
theorem dX5_append_55 : decode cX5_append 55 = .ok (.invokestatic 29, 3) := by decide +kernel
theorem dX5_append_58 : decode cX5_append 58 = .ok (.aload_n 0, 1) := by decide +kernel
theorem dX5_append_59 : decode cX5_append 59 = .ok (.getfield 19, 3) := by decide +kernel
theorem dX5_append_62 : decode cX5_append 62 = .ok (.iconst 4, 1) := by decide +kernel
theorem dX5_append_63 : decode cX5_append 63 = .ok (.if_icmp .le 16, 3) := by decide +kernel
theorem dX5_append_66 : decode cX5_append 66 = .ok (.aload_n 0, 1) := by decide +kernel
theorem dX5_append_67 : decode cX5_append 67 = .ok (.getfield 25, 3) := by decide +kernel
theorem dX5_append_70 : decode cX5_append 70 = .ok (.iload 6, 2) := by decide +kernel
theorem dX5_append_72 : decode cX5_append 72 = .ok (.iconst 4, 1) := by decide +kernel
theorem dX5_append_73 : decode cX5_append 73 = .ok (.iadd, 1) := by decide +kernel
theorem dX5_append_74 : decode cX5_append 74 = .ok (.iload 5, 2) := by decide +kernel
theorem dX5_append_76 : decode cX5_append 76 = .ok (.invokestatic 29, 3) := by decide +kernel
theorem dX5_append_79 : decode cX5_append 79 = .ok (.aload_n 0, 1) := by decide +kernel
theorem dX5_append_80 : decode cX5_append 80 = .ok (.dup, 1) := by decide +kernel
theorem dX5_append_81 : decode cX5_append 81 = .ok (.getfield 7, 3) := by decide +kernel
theorem dX5_append_84 : decode cX5_append 84 = .ok (.iconst 1, 1) := by decide +kernel
theorem dX5_append_85 : decode cX5_append 85 = .ok (.iadd, 1) := by decide +kernel
theorem dX5_append_86 : decode cX5_append 86 = .ok (.putfield 7, 3) := by decide +kernel
theorem dX5_append_89 : decode cX5_append 89 = .ok (.aload_n 0, 1) := by decide +kernel
theorem dX5_append_90 : decode cX5_append 90 = .ok (.getfield 7, 3) := by decide +kernel
theorem dX5_append_93 : decode cX5_append 93 = .ok (.ireturn, 1) := by decide +kernel
theorem dX5_value_0 : decode cX5_value 0 = .ok (.aload_n 0, 1) := by decide +kernel
theorem dX5_value_1 : decode cX5_value 1 = .ok (.getfield 25, 3) := by decide +kernel
theorem dX5_value_4 : decode cX5_value 4 = .ok (.iload_n 1, 1) := by decide +kernel
theorem dX5_value_5 : decode cX5_value 5 = .ok (.aload_n 0, 1) := by decide +kernel
theorem dX5_value_6 : decode cX5_value 6 = .ok (.getfield 19, 3) := by decide +kernel
theorem dX5_value_9 : decode cX5_value 9 = .ok (.imul, 1) := by decide +kernel
theorem dX5_value_10 : decode cX5_value 10 = .ok (.iload_n 2, 1) := by decide +kernel
theorem dX5_value_11 : decode cX5_value 11 = .ok (.iadd, 1) := by decide +kernel
theorem dX5_value_12 : decode cX5_value 12 = .ok (.invokestatic 35, 3) := by decide +kernel
theorem dX5_value_15 : decode cX5_value 15 = .ok (.ireturn, 1) := by decide +kernel
theorem dX5_drain_0 : decode cX5_drain 0 = .ok (.aload_n 0, 1) := by decide +kernel
theorem dX5_drain_1 : decode cX5_drain 1 = .ok (.getfield 7, 3) := by decide +kernel
theorem dX5_drain_4 : decode cX5_drain 4 = .ok (.istore_n 1, 1) := by decide +kernel
theorem dX5_drain_5 : decode cX5_drain 5 = .ok (.aload_n 0, 1) := by decide +kernel
theorem dX5_drain_6 : decode cX5_drain 6 = .ok (.iconst 0, 1) := by decide +kernel
theorem dX5_drain_7 : decode cX5_drain 7 = .ok (.putfield 7, 3) := by decide +kernel
theorem dX5_drain_10 : decode cX5_drain 10 = .ok (.iload_n 1, 1) := by decide +kernel
theorem dX5_drain_11 : decode cX5_drain 11 = .ok (.ireturn, 1) := by decide +kernel
theorem dX5_become_0 : decode cX5_become 0 = .ok (.aload_n 1, 1) := by decide +kernel
theorem dX5_become_1 : decode cX5_become 1 = .ok (.getfield 25, 3) := by decide +kernel
theorem dX5_become_4 : decode cX5_become 4 = .ok (.aload_n 0, 1) := by decide +kernel
theorem dX5_become_5 : decode cX5_become 5 = .ok (.getfield 25, 3) := by decide +kernel
theorem dX5_become_8 : decode cX5_become 8 = .ok (.invokestatic 39, 3) := by decide +kernel
theorem dX5_become_11 : decode cX5_become 11 = .ok (.aload_n 0, 1) := by decide +kernel
theorem dX5_become_12 : decode cX5_become 12 = .ok (.aload_n 1, 1) := by decide +kernel
theorem dX5_become_13 : decode cX5_become 13 = .ok (.getfield 7, 3) := by decide +kernel
theorem dX5_become_16 : decode cX5_become 16 = .ok (.putfield 7, 3) := by decide +kernel
theorem dX5_become_19 : decode cX5_become 19 = .ok (.return_, 1) := by decide +kernel
theorem dX5_digestOn_0 : decode cX5_digestOn 0 = .ok (.lload_n 1, 1) := by decide +kernel
theorem dX5_digestOn_1 : decode cX5_digestOn 1 = .ok (.lstore_n 3, 1) := by decide +kernel
theorem dX5_digestOn_2 : decode cX5_digestOn 2 = .ok (.iconst 0, 1) := by decide +kernel
theorem dX5_digestOn_3 : decode cX5_digestOn 3 = .ok (.istore 5, 2) := by decide +kernel
theorem dX5_digestOn_5 : decode cX5_digestOn 5 = .ok (.iload 5, 2) := by decide +kernel
theorem dX5_digestOn_7 : decode cX5_digestOn 7 = .ok (.aload_n 0, 1) := by decide +kernel
theorem dX5_digestOn_8 : decode cX5_digestOn 8 = .ok (.getfield 7, 3) := by decide +kernel
theorem dX5_digestOn_11 : decode cX5_digestOn 11 = .ok (.aload_n 0, 1) := by decide +kernel
theorem dX5_digestOn_12 : decode cX5_digestOn 12 = .ok (.getfield 19, 3) := by decide +kernel
theorem dX5_digestOn_15 : decode cX5_digestOn 15 = .ok (.imul, 1) := by decide +kernel
theorem dX5_digestOn_16 : decode cX5_digestOn 16 = .ok (.if_icmp .ge 26, 3) := by decide +kernel
theorem dX5_digestOn_19 : decode cX5_digestOn 19 = .ok (.ldc2_w 43, 3) := by decide +kernel
theorem dX5_digestOn_22 : decode cX5_digestOn 22 = .ok (.lload_n 3, 1) := by decide +kernel
theorem dX5_digestOn_23 : decode cX5_digestOn 23 = .ok (.lmul, 1) := by decide +kernel
theorem dX5_digestOn_24 : decode cX5_digestOn 24 = .ok (.aload_n 0, 1) := by decide +kernel
theorem dX5_digestOn_25 : decode cX5_digestOn 25 = .ok (.getfield 25, 3) := by decide +kernel
theorem dX5_digestOn_28 : decode cX5_digestOn 28 = .ok (.iload 5, 2) := by decide +kernel
theorem dX5_digestOn_30 : decode cX5_digestOn 30 = .ok (.invokestatic 35, 3) := by decide +kernel
theorem dX5_digestOn_33 : decode cX5_digestOn 33 = .ok (.i2l, 1) := by decide +kernel
theorem dX5_digestOn_34 : decode cX5_digestOn 34 = .ok (.ladd, 1) := by decide +kernel
theorem dX5_digestOn_35 : decode cX5_digestOn 35 = .ok (.lstore_n 3, 1) := by decide +kernel
theorem dX5_digestOn_36 : decode cX5_digestOn 36 = .ok (.iinc 5 1, 3) := by decide +kernel
theorem dX5_digestOn_39 : decode cX5_digestOn 39 = .ok (.goto (-34), 3) := by decide +kernel
theorem dX5_digestOn_42 : decode cX5_digestOn 42 = .ok (.lload_n 3, 1) := by decide +kernel
theorem dX5_digestOn_43 : decode cX5_digestOn 43 = .ok (.lreturn, 1) := by decide +kernel
