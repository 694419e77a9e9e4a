theorem dX6_init_0 : decode cX6_init 0 = .ok (.aload_n 0, 1) := by decide +kernel
theorem dX6_init_1 : decode cX6_init 1 = .ok (.invokespecial 1, 3) := by decide +kernel
theorem dX6_init_4 : decode cX6_init 4 = .ok (.aload_n 0, 1) := by decide +kernel
theorem dX6_init_5 : decode cX6_init 5 = .ok (.new 7, 3) := by decide +kernel
theorem dX6_init_8 : decode cX6_init 8 = .ok (.dup, 1) := by decide +kernel
theorem dX6_init_9 : decode cX6_init 9 = .ok (.invokespecial 9, 3) := by decide +kernel
theorem dX6_init_12 : decode cX6_init 12 = .ok (.putfield 10, 3) := by decide +kernel
theorem dX6_init_15 : decode cX6_init 15 = .ok (.aload_n 0, 1) := by decide +kernel
theorem dX6_init_16 : decode cX6_init 16 = .ok (.new 7, 3) := by decide +kernel
theorem dX6_init_19 : decode cX6_init 19 = .ok (.dup, 1) := by decide +kernel
theorem dX6_init_20 : decode cX6_init 20 = .ok (.invokespecial 9, 3) := by decide +kernel
theorem dX6_init_23 : decode cX6_init 23 = .ok (.putfield 16, 3) := by decide +kernel
theorem dX6_init_26 : decode cX6_init 26 = .ok (.aload_n 0, 1) := by decide +kernel
theorem dX6_init_27 : decode cX6_init 27 = .ok (.new 7, 3) := by decide +kernel
theorem dX6_init_30 : decode cX6_init 30 = .ok (.dup, 1) := by decide +kernel
theorem dX6_init_31 : decode cX6_init 31 = .ok (.invokespecial 9, 3) := by decide +kernel
theorem dX6_init_34 : decode cX6_init 34 = .ok (.putfield 19, 3) := by decide +kernel
theorem dX6_init_37 : decode cX6_init 37 = .ok (.aload_n 0, 1) := by decide +kernel
theorem dX6_init_38 : decode cX6_init 38 = .ok (.new 7, 3) := by decide +kernel
theorem dX6_init_41 : decode cX6_init 41 = .ok (.dup, 1) := by decide +kernel
theorem dX6_init_42 : decode cX6_init 42 = .ok (.invokespecial 9, 3) := by decide +kernel
theorem dX6_init_45 : decode cX6_init 45 = .ok (.putfield 22, 3) := by decide +kernel
theorem dX6_init_48 : decode cX6_init 48 = .ok (.aload_n 0, 1) := by decide +kernel
theorem dX6_init_49 : decode cX6_init 49 = .ok (.iconst 0, 1) := by decide +kernel
theorem dX6_init_50 : decode cX6_init 50 = .ok (.putfield 25, 3) := by decide +kernel
theorem dX6_init_53 : decode cX6_init 53 = .ok (.aload_n 0, 1) := by decide +kernel
theorem dX6_init_54 : decode cX6_init 54 = .ok (.iconst 0, 1) := by decide +kernel
theorem dX6_init_55 : decode cX6_init 55 = .ok (.putfield 29, 3) := by decide +kernel
theorem dX6_init_58 : decode cX6_init 58 = .ok (.aload_n 0, 1) := by decide +kernel
theorem dX6_init_59 : decode cX6_init 59 = .ok (.new 32, 3) := by decide +kernel
theorem dX6_init_62 : decode cX6_init 62 = .ok (.dup, 1) := by decide +kernel
theorem dX6_init_63 : decode cX6_init 63 = .ok (.invokespecial 34, 3) := by decide +kernel
theorem dX6_init_66 : decode cX6_init 66 = .ok (.putfield 35, 3) := by decide +kernel
theorem dX6_init_69 : decode cX6_init 69 = .ok (.aload_n 0, 1) := by decide +kernel
theorem dX6_init_70 : decode cX6_init 70 = .ok (.new 39, 3) := by decide +kernel
theorem dX6_init_73 : decode cX6_init 73 = .ok (.dup, 1) := by decide +kernel
theorem dX6_init_74 : decode cX6_init 74 = .ok (.invokespecial 41, 3) := by decide +kernel
theorem dX6_init_77 : decode cX6_init 77 = .ok (.putfield 42, 3) := by decide +kernel
theorem dX6_init_80 : decode cX6_init 80 = .ok (.aload_n 0, 1) := by decide +kernel
theorem dX6_init_81 : decode cX6_init 81 = .ok (.new 46, 3) := by decide +kernel
theorem dX6_init_84 : decode cX6_init 84 = .ok (.dup, 1) := by decide +kernel
theorem dX6_init_85 : decode cX6_init 85 = .ok (.invokespecial 48, 3) := by decide +kernel
theorem dX6_init_88 : decode cX6_init 88 = .ok (.putfield 49, 3) := by decide +kernel
theorem dX6_init_91 : decode cX6_init 91 = .ok (.aload_n 0, 1) := by decide +kernel
theorem dX6_init_92 : decode cX6_init 92 = .ok (.new 53, 3) := by decide +kernel
theorem dX6_init_95 : decode cX6_init 95 = .ok (.dup, 1) := by decide +kernel
theorem dX6_init_96 : decode cX6_init 96 = .ok (.invokespecial 55, 3) := by decide +kernel
theorem dX6_init_99 : decode cX6_init 99 = .ok (.putfield 56, 3) := by decide +kernel
theorem dX6_init_102 : decode cX6_init 102 = .ok (.aload_n 0, 1) := by decide +kernel
theorem dX6_init_103 : decode cX6_init 103 = .ok (.bipush 9, 2) := by decide +kernel
theorem dX6_init_105 : decode cX6_init 105 = .ok (.newarray .int, 2) := by decide +kernel
theorem dX6_init_107 : decode cX6_init 107 = .ok (.putfield 60, 3) := by decide +kernel
theorem dX6_init_110 : decode cX6_init 110 = .ok (.aload_n 0, 1) := by decide +kernel
theorem dX6_init_111 : decode cX6_init 111 = .ok (.lconst 0, 1) := by decide +kernel
theorem dX6_init_112 : decode cX6_init 112 = .ok (.putfield 64, 3) := by decide +kernel
theorem dX6_init_115 : decode cX6_init 115 = .ok (.aload_n 0, 1) := by decide +kernel
theorem dX6_init_116 : decode cX6_init 116 = .ok (.lconst 1, 1) := by decide +kernel
theorem dX6_init_117 : decode cX6_init 117 = .ok (.putfield 68, 3) := by decide +kernel
theorem dX6_init_120 : decode cX6_init 120 = .ok (.aload_n 0, 1) := by decide +kernel
theorem dX6_init_121 : decode cX6_init 121 = .ok (.iconst 0, 1) := by decide +kernel
theorem dX6_init_122 : decode cX6_init 122 = .ok (.putfield 71, 3) := by decide +kernel
theorem dX6_init_125 : decode cX6_init 125 = .ok (.aload_n 0, 1) := by decide +kernel
theorem dX6_init_126 : decode cX6_init 126 = .ok (.iconst 0, 1) := by decide +kernel
theorem dX6_init_127 : decode cX6_init 127 = .ok (.putfield 75, 3) := by decide +kernel
theorem dX6_init_130 : decode cX6_init 130 = .ok (.aload_n 0, 1) := by decide +kernel
theorem dX6_init_131 : decode cX6_init 131 = .ok (.iconst 0, 1) := by decide +kernel
theorem dX6_init_132 : decode cX6_init 132 = .ok (.putfield 78, 3) := by decide +kernel
theorem dX6_init_135 : decode cX6_init 135 = .ok (.return_, 1) := by decide +kernel
theorem dX6_puppet_0 : decode cX6_puppet 0 = .ok (.iload_n 1, 1) := by decide +kernel
theorem dX6_puppet_1 : decode cX6_puppet 1 = .ok (.iconst 0, 1) := by decide +kernel
theorem dX6_puppet_2 : decode cX6_puppet 2 = .ok (.bipush 40, 2) := by decide +kernel
theorem dX6_puppet_4 : decode cX6_puppet 4 = .ok (.invokestatic 81, 3) := by decide +kernel
theorem dX6_puppet_7 : decode cX6_puppet 7 = .ok (.ifCond .eq 11, 3) := by decide +kernel
theorem dX6_puppet_10 : decode cX6_puppet 10 = .ok (.aload_n 0, 1) := by decide +kernel
theorem dX6_puppet_11 : decode cX6_puppet 11 = .ok (.sipush (-1002), 3) := by decide +kernel
theorem dX6_puppet_14 : decode cX6_puppet 14 = .ok (.invokevirtual 85, 3) := by decide +kernel
theorem dX6_puppet_17 : decode cX6_puppet 17 = .ok (.ireturn, 1) := by decide +kernel
theorem dX6_puppet_18 : decode cX6_puppet 18 = .ok (.aload_n 0, 1) := by decide +kernel
theorem dX6_puppet_19 : decode cX6_puppet 19 = .ok (.getfield 10, 3) := by decide +kernel
theorem dX6_puppet_22 : decode cX6_puppet 22 = .ok (.getfield 89, 3) := by decide +kernel
theorem dX6_puppet_25 : decode cX6_puppet 25 = .ok (.istore_n 2, 1) := by decide +kernel
theorem dX6_puppet_26 : decode cX6_puppet 26 = .ok (.aload_n 0, 1) := by decide +kernel
theorem dX6_puppet_27 : decode cX6_puppet 27 = .ok (.getfield 10, 3) := by decide +kernel
theorem dX6_puppet_30 : decode cX6_puppet 30 = .ok (.iload_n 1, 1) := by decide +kernel
theorem dX6_puppet_31 : decode cX6_puppet 31 = .ok (.invokevirtual 92, 3) := by decide +kernel
theorem dX6_puppet_34 : decode cX6_puppet 34 = .ok (.iload_n 2, 1) := by decide +kernel
theorem dX6_puppet_35 : decode cX6_puppet 35 = .ok (.ireturn, 1) := by decide +kernel
theorem dX6_limb_0 : decode cX6_limb 0 = .ok (.iload_n 1, 1) := by decide +kernel
theorem dX6_limb_1 : decode cX6_limb 1 = .ok (.iconst 0, 1) := by decide +kernel
theorem dX6_limb_2 : decode cX6_limb 2 = .ok (.iconst 5, 1) := by decide +kernel
theorem dX6_limb_3 : decode cX6_limb 3 = .ok (.invokestatic 81, 3) := by decide +kernel
theorem dX6_limb_6 : decode cX6_limb 6 = .ok (.ifCond .ne 44, 3) := by decide +kernel
theorem dX6_limb_9 : decode cX6_limb 9 = .ok (.iload_n 2, 1) := by decide +kernel
theorem dX6_limb_10 : decode cX6_limb 10 = .ok (.iconst 0, 1) := by decide +kernel
theorem dX6_limb_11 : decode cX6_limb 11 = .ok (.iconst 5, 1) := by decide +kernel
theorem dX6_limb_12 : decode cX6_limb 12 = .ok (.invokestatic 81, 3) := by decide +kernel
theorem dX6_limb_15 : decode cX6_limb 15 = .ok (.ifCond .ne 35, 3) := by decide +kernel
theorem dX6_limb_18 : decode cX6_limb 18 = .ok (.iload_n 3, 1) := by decide +kernel
theorem dX6_limb_19 : decode cX6_limb 19 = .ok (.iconst 1, 1) := by decide +kernel
theorem dX6_limb_20 : decode cX6_limb 20 = .ok (.bipush 9, 2) := by decide +kernel
theorem dX6_limb_22 : decode cX6_limb 22 = .ok (.invokestatic 81, 3) := by decide +kernel
theorem dX6_limb_25 : decode cX6_limb 25 = .ok (.ifCond .ne 25, 3) := by decide +kernel
theorem dX6_limb_28 : decode cX6_limb 28 = .ok (.iload 4, 2) := by decide +kernel
theorem dX6_limb_30 : decode cX6_limb 30 = .ok (.iconst 1, 1) := by decide +kernel
theorem dX6_limb_31 : decode cX6_limb 31 = .ok (.bipush 20, 2) := by decide +kernel
theorem dX6_limb_33 : decode cX6_limb 33 = .ok (.invokestatic 81, 3) := by decide +kernel
theorem dX6_limb_36 : decode cX6_limb 36 = .ok (.ifCond .ne 14, 3) := by decide +kernel
theorem dX6_limb_39 : decode cX6_limb 39 = .ok (.iload 5, 2) := by decide +kernel
theorem dX6_limb_41 : decode cX6_limb 41 = .ok (.iconst 0, 1) := by decide +kernel
theorem dX6_limb_42 : decode cX6_limb 42 = .ok (.bipush 8, 2) := by decide +kernel
theorem dX6_limb_44 : decode cX6_limb 44 = .ok (.invokestatic 81, 3) := by decide +kernel
theorem dX6_limb_47 : decode cX6_limb 47 = .ok (.ifCond .eq 11, 3) := by decide +kernel
theorem dX6_limb_50 : decode cX6_limb 50 = .ok (.aload_n 0, 1) := by decide +kernel
theorem dX6_limb_51 : decode cX6_limb 51 = .ok (.sipush (-1002), 3) := by decide +kernel
theorem dX6_limb_54 : decode cX6_limb 54 = .ok (.invokevirtual 85, 3) := by decide +kernel
theorem dX6_limb_57 : decode cX6_limb 57 = .ok (.ireturn, 1) := by decide +kernel
theorem dX6_limb_58 : decode cX6_limb 58 = .ok (.aload_n 0, 1) := by decide +kernel
theorem dX6_limb_59 : decode cX6_limb 59 = .ok (.getfield 10, 3) := by decide +kernel
theorem dX6_limb_62 : decode cX6_limb 62 = .ok (.getfield 89, 3) := by decide +kernel
theorem dX6_limb_65 : decode cX6_limb 65 = .ok (.bipush 7, 2) := by decide +kernel
theorem dX6_limb_67 : decode cX6_limb 67 = .ok (.if_icmp .lt 8, 3) := by decide +kernel
theorem dX6_limb_70 : decode cX6_limb 70 = .ok (.aload_n 0, 1) := by decide +kernel
theorem dX6_limb_71 : decode cX6_limb 71 = .ok (.invokevirtual 96, 3) := by decide +kernel
theorem dX6_limb_74 : decode cX6_limb 74 = .ok (.ireturn, 1) := by decide +kernel
theorem dX6_limb_75 : decode cX6_limb 75 = .ok (.aload_n 0, 1) := by decide +kernel
theorem dX6_limb_76 : decode cX6_limb 76 = .ok (.getfield 10, 3) := by decide +kernel
theorem dX6_limb_79 : decode cX6_limb 79 = .ok (.iload_n 1, 1) := by decide +kernel
theorem dX6_limb_80 : decode cX6_limb 80 = .ok (.iload_n 2, 1) := by decide +kernel
theorem dX6_limb_81 : decode cX6_limb 81 = .ok (.iload_n 3, 1) := by decide +kernel
theorem dX6_limb_82 : decode cX6_limb 82 = .ok (.iload 4, 2) := by decide +kernel
theorem dX6_limb_84 : decode cX6_limb 84 = .ok (.iload 5, 2) := by decide +kernel
theorem dX6_limb_86 : decode cX6_limb 86 = .ok (.invokevirtual 100, 3) := by decide +kernel
theorem dX6_limb_89 : decode cX6_limb 89 = .ok (.ireturn, 1) := by decide +kernel
theorem dX6_type_0 : decode cX6_type 0 = .ok (.iload_n 1, 1) := by decide +kernel
theorem dX6_type_1 : decode cX6_type 1 = .ok (.iconst 0, 1) := by decide +kernel
theorem dX6_type_2 : decode cX6_type 2 = .ok (.bipush 127, 2) := by decide +kernel
theorem dX6_type_4 : decode cX6_type 4 = .ok (.invokestatic 81, 3) := by decide +kernel
theorem dX6_type_7 : decode cX6_type 7 = .ok (.ifCond .eq 11, 3) := by decide +kernel
theorem dX6_type_10 : decode cX6_type 10 = .ok (.aload_n 0, 1) := by decide +kernel
theorem dX6_type_11 : decode cX6_type 11 = .ok (.sipush (-1002), 3) := by decide +kernel
theorem dX6_type_14 : decode cX6_type 14 = .ok (.invokevirtual 85, 3) := by decide +kernel
theorem dX6_type_17 : decode cX6_type 17 = .ok (.ireturn, 1) := by decide +kernel
theorem dX6_type_18 : decode cX6_type 18 = .ok (.aload_n 0, 1) := by decide +kernel
theorem dX6_type_19 : decode cX6_type 19 = .ok (.getfield 35, 3) := by decide +kernel
theorem dX6_type_22 : decode cX6_type 22 = .ok (.getfield 104, 3) := by decide +kernel
theorem dX6_type_25 : decode cX6_type 25 = .ok (.sipush 150, 3) := by decide +kernel
theorem dX6_type_28 : decode cX6_type 28 = .ok (.if_icmp .lt 8, 3) := by decide +kernel
theorem dX6_type_31 : decode cX6_type 31 = .ok (.aload_n 0, 1) := by decide +kernel
theorem dX6_type_32 : decode cX6_type 32 = .ok (.invokevirtual 96, 3) := by decide +kernel
theorem dX6_type_35 : decode cX6_type 35 = .ok (.ireturn, 1) := by decide +kernel
theorem dX6_type_36 : decode cX6_type 36 = .ok (.aload_n 0, 1) := by decide +kernel
theorem dX6_type_37 : decode cX6_type 37 = .ok (.getfield 35, 3) := by decide +kernel
theorem dX6_type_40 : decode cX6_type 40 = .ok (.iload_n 1, 1) := by decide +kernel
theorem dX6_type_41 : decode cX6_type 41 = .ok (.invokevirtual 107, 3) := by decide +kernel
theorem dX6_type_44 : decode cX6_type 44 = .ok (.ireturn, 1) := by decide +kernel
theorem dX6_clear_0 : decode cX6_clear 0 = .ok (.aload_n 0, 1) := by decide +kernel
theorem dX6_clear_1 : decode cX6_clear 1 = .ok (.getfield 35, 3) := by decide +kernel
theorem dX6_clear_4 : decode cX6_clear 4 = .ok (.getfield 104, 3) := by decide +kernel
theorem dX6_clear_7 : decode cX6_clear 7 = .ok (.istore_n 1, 1) := by decide +kernel
theorem dX6_clear_8 : decode cX6_clear 8 = .ok (.aload_n 0, 1) := by decide +kernel
theorem dX6_clear_9 : decode cX6_clear 9 = .ok (.getfield 35, 3) := by decide +kernel
theorem dX6_clear_12 : decode cX6_clear 12 = .ok (.iconst 0, 1) := by decide +kernel
theorem dX6_clear_13 : decode cX6_clear 13 = .ok (.putfield 104, 3) := by decide +kernel
theorem dX6_clear_16 : decode cX6_clear 16 = .ok (.iload_n 1, 1) := by decide +kernel
theorem dX6_clear_17 : decode cX6_clear 17 = .ok (.ireturn, 1) := by decide +kernel
theorem dX6_read_0 : decode cX6_read 0 = .ok (.aload_n 0, 1) := by decide +kernel
theorem dX6_read_1 : decode cX6_read 1 = .ok (.getfield 35, 3) := by decide +kernel
theorem dX6_read_4 : decode cX6_read 4 = .ok (.aload_n 0, 1) := by decide +kernel
theorem dX6_read_5 : decode cX6_read 5 = .ok (.getfield 16, 3) := by decide +kernel
theorem dX6_read_8 : decode cX6_read 8 = .ok (.invokevirtual 110, 3) := by decide +kernel
theorem dX6_read_11 : decode cX6_read 11 = .ok (.istore_n 1, 1) := by decide +kernel
theorem dX6_read_12 : decode cX6_read 12 = .ok (.iload_n 1, 1) := by decide +kernel
theorem dX6_read_13 : decode cX6_read 13 = .ok (.ifCond .lt 14, 3) := by decide +kernel
theorem dX6_read_16 : decode cX6_read 16 = .ok (.aload_n 0, 1) := by decide +kernel
theorem dX6_read_17 : decode cX6_read 17 = .ok (.getfield 10, 3) := by decide +kernel
theorem dX6_read_20 : decode cX6_read 20 = .ok (.aload_n 0, 1) := by decide +kernel
theorem dX6_read_21 : decode cX6_read 21 = .ok (.getfield 16, 3) := by decide +kernel
theorem dX6_read_24 : decode cX6_read 24 = .ok (.invokevirtual 114, 3) := by decide +kernel
theorem dX6_read_27 : decode cX6_read 27 = .ok (.iload_n 1, 1) := by decide +kernel
theorem dX6_read_28 : decode cX6_read 28 = .ok (.ireturn, 1) := by decide +kernel
theorem dX6_moves_0 : decode cX6_moves 0 = .ok (.iload_n 1, 1) := by decide +kernel
theorem dX6_moves_1 : decode cX6_moves 1 = .ok (.iconst 0, 1) := by decide +kernel
theorem dX6_moves_2 : decode cX6_moves 2 = .ok (.iconst 4, 1) := by decide +kernel
theorem dX6_moves_3 : decode cX6_moves 3 = .ok (.invokestatic 81, 3) := by decide +kernel
theorem dX6_moves_6 : decode cX6_moves 6 = .ok (.ifCond .eq 11, 3) := by decide +kernel
theorem dX6_moves_9 : decode cX6_moves 9 = .ok (.aload_n 0, 1) := by decide +kernel
theorem dX6_moves_10 : decode cX6_moves 10 = .ok (.sipush (-1002), 3) := by decide +kernel
theorem dX6_moves_13 : decode cX6_moves 13 = .ok (.invokevirtual 85, 3) := by decide +kernel
theorem dX6_moves_16 : decode cX6_moves 16 = .ok (.ireturn, 1) := by decide +kernel
theorem dX6_moves_17 : decode cX6_moves 17 = .ok (.aload_n 0, 1) := by decide +kernel
theorem dX6_moves_18 : decode cX6_moves 18 = .ok (.getfield 10, 3) := by decide +kernel
theorem dX6_moves_21 : decode cX6_moves 21 = .ok (.getfield 118, 3) := by decide +kernel
theorem dX6_moves_24 : decode cX6_moves 24 = .ok (.getfield 121, 3) := by decide +kernel
theorem dX6_moves_27 : decode cX6_moves 27 = .ok (.sipush 9999, 3) := by decide +kernel
theorem dX6_moves_30 : decode cX6_moves 30 = .ok (.if_icmp .lt 8, 3) := by decide +kernel
theorem dX6_moves_33 : decode cX6_moves 33 = .ok (.aload_n 0, 1) := by decide +kernel
theorem dX6_moves_34 : decode cX6_moves 34 = .ok (.invokevirtual 124, 3) := by decide +kernel
theorem dX6_moves_37 : decode cX6_moves 37 = .ok (.ireturn, 1) := by decide +kernel
theorem dX6_moves_38 : decode cX6_moves 38 = .ok (.aload_n 0, 1) := by decide +kernel
theorem dX6_moves_39 : decode cX6_moves 39 = .ok (.getfield 10, 3) := by decide +kernel
theorem dX6_moves_42 : decode cX6_moves 42 = .ok (.invokevirtual 127, 3) := by decide +kernel
theorem dX6_moves_45 : decode cX6_moves 45 = .ok (.aload_n 0, 1) := by decide +kernel
theorem dX6_moves_46 : decode cX6_moves 46 = .ok (.getfield 10, 3) := by decide +kernel
theorem dX6_moves_49 : decode cX6_moves 49 = .ok (.aload_n 0, 1) := by decide +kernel
theorem dX6_moves_50 : decode cX6_moves 50 = .ok (.getfield 10, 3) := by decide +kernel
theorem dX6_moves_53 : decode cX6_moves 53 = .ok (.getfield 118, 3) := by decide +kernel
theorem dX6_moves_56 : decode cX6_moves 56 = .ok (.iload_n 1, 1) := by decide +kernel
theorem dX6_moves_57 : decode cX6_moves 57 = .ok (.invokevirtual 130, 3) := by decide +kernel
theorem dX6_moves_60 : decode cX6_moves 60 = .ok (.aload_n 0, 1) := by decide +kernel
theorem dX6_moves_61 : decode cX6_moves 61 = .ok (.getfield 10, 3) := by decide +kernel
theorem dX6_moves_64 : decode cX6_moves 64 = .ok (.aload_n 0, 1) := by decide +kernel
theorem dX6_moves_65 : decode cX6_moves 65 = .ok (.getfield 10, 3) := by decide +kernel
theorem dX6_moves_68 : decode cX6_moves 68 = .ok (.getfield 118, 3) := by decide +kernel
theorem dX6_moves_71 : decode cX6_moves 71 = .ok (.invokevirtual 134, 3) := by decide +kernel
theorem dX6_moves_74 : decode cX6_moves 74 = .ok (.ireturn, 1) := by decide +kernel
theorem dX6_ties_0 : decode cX6_ties 0 = .ok (.aload_n 0, 1) := by decide +kernel
theorem dX6_ties_1 : decode cX6_ties 1 = .ok (.iload_n 1, 1) := by decide +kernel
theorem dX6_ties_2 : decode cX6_ties 2 = .ok (.invokevirtual 138, 3) := by decide +kernel
theorem dX6_ties_5 : decode cX6_ties 5 = .ok (.ifCond .eq 11, 3) := by decide +kernel
theorem dX6_ties_8 : decode cX6_ties 8 = .ok (.aload_n 0, 1) := by decide +kernel
theorem dX6_ties_9 : decode cX6_ties 9 = .ok (.sipush (-1002), 3) := by decide +kernel
theorem dX6_ties_12 : decode cX6_ties 12 = .ok (.invokevirtual 85, 3) := by decide +kernel
theorem dX6_ties_15 : decode cX6_ties 15 = .ok (.ireturn, 1) := by decide +kernel
theorem dX6_ties_16 : decode cX6_ties 16 = .ok (.aload_n 0, 1) := by decide +kernel
theorem dX6_ties_17 : decode cX6_ties 17 = .ok (.getfield 10, 3) := by decide +kernel
theorem dX6_ties_20 : decode cX6_ties 20 = .ok (.iload_n 1, 1) := by decide +kernel
theorem dX6_ties_21 : decode cX6_ties 21 = .ok (.invokevirtual 142, 3) := by decide +kernel
theorem dX6_ties_24 : decode cX6_ties 24 = .ok (.invokestatic 145, 3) := by decide +kernel
theorem dX6_ties_27 : decode cX6_ties 27 = .ok (.ifCond .ne 8, 3) := by decide +kernel
theorem dX6_ties_30 : decode cX6_ties 30 = .ok (.aload_n 0, 1) := by decide +kernel
theorem dX6_ties_31 : decode cX6_ties 31 = .ok (.invokevirtual 124, 3) := by decide +kernel
theorem dX6_ties_34 : decode cX6_ties 34 = .ok (.ireturn, 1) := by decide +kernel
theorem dX6_ties_35 : decode cX6_ties 35 = .ok (.aload_n 0, 1) := by decide +kernel
theorem dX6_ties_36 : decode cX6_ties 36 = .ok (.getfield 10, 3) := by decide +kernel
theorem dX6_ties_39 : decode cX6_ties 39 = .ok (.iload_n 1, 1) := by decide +kernel
theorem dX6_ties_40 : decode cX6_ties 40 = .ok (.invokevirtual 142, 3) := by decide +kernel
theorem dX6_ties_43 : decode cX6_ties 43 = .ok (.istore_n 2, 1) := by decide +kernel
theorem dX6_ties_44 : decode cX6_ties 44 = .ok (.aload_n 0, 1) := by decide +kernel
theorem dX6_ties_45 : decode cX6_ties 45 = .ok (.getfield 10, 3) := by decide +kernel
theorem dX6_ties_48 : decode cX6_ties 48 = .ok (.invokevirtual 127, 3) := by decide +kernel
theorem dX6_ties_51 : decode cX6_ties 51 = .ok (.aload_n 0, 1) := by decide +kernel
theorem dX6_ties_52 : decode cX6_ties 52 = .ok (.getfield 10, 3) := by decide +kernel
theorem dX6_ties_55 : decode cX6_ties 55 = .ok (.getfield 118, 3) := by decide +kernel
theorem dX6_ties_58 : decode cX6_ties 58 = .ok (.getfield 148, 3) := by decide +kernel
theorem dX6_ties_61 : decode cX6_ties 61 = .ok (.iload_n 1, 1) := by decide +kernel
theorem dX6_ties_62 : decode cX6_ties 62 = .ok (.iconst 0, 1) := by decide +kernel
theorem dX6_ties_63 : decode cX6_ties 63 = .ok (.invokestatic 151, 3) := by decide +kernel
theorem dX6_ties_66 : decode cX6_ties 66 = .ok (.iload_n 2, 1) := by decide +kernel
theorem dX6_ties_67 : decode cX6_ties 67 = .ok (.ireturn, 1) := by decide +kernel
theorem dX6_hangs_0 : decode cX6_hangs 0 = .ok (.aload_n 0, 1) := by decide +kernel
theorem dX6_hangs_1 : decode cX6_hangs 1 = .ok (.iload_n 1, 1) := by decide +kernel
theorem dX6_hangs_2 : decode cX6_hangs 2 = .ok (.invokevirtual 138, 3) := by decide +kernel
theorem dX6_hangs_5 : decode cX6_hangs 5 = .ok (.ifCond .ne 13, 3) := by decide +kernel
theorem dX6_hangs_8 : decode cX6_hangs 8 = .ok (.iload_n 2, 1) := by decide +kernel
theorem dX6_hangs_9 : decode cX6_hangs 9 = .ok (.iconst 0, 1) := by decide +kernel
theorem dX6_hangs_10 : decode cX6_hangs 10 = .ok (.bipush 8, 2) := by decide +kernel
theorem dX6_hangs_12 : decode cX6_hangs 12 = .ok (.invokestatic 81, 3) := by decide +kernel
theorem dX6_hangs_15 : decode cX6_hangs 15 = .ok (.ifCond .eq 11, 3) := by decide +kernel
theorem dX6_hangs_18 : decode cX6_hangs 18 = .ok (.aload_n 0, 1) := by decide +kernel
theorem dX6_hangs_19 : decode cX6_hangs 19 = .ok (.sipush (-1002), 3) := by decide +kernel
theorem dX6_hangs_22 : decode cX6_hangs 22 = .ok (.invokevirtual 85, 3) := by decide +kernel
theorem dX6_hangs_25 : decode cX6_hangs 25 = .ok (.ireturn, 1) := by decide +kernel
theorem dX6_hangs_26 : decode cX6_hangs 26 = .ok (.aload_n 0, 1) := by decide +kernel
theorem dX6_hangs_27 : decode cX6_hangs 27 = .ok (.getfield 10, 3) := by decide +kernel
theorem dX6_hangs_30 : decode cX6_hangs 30 = .ok (.iload_n 1, 1) := by decide +kernel
theorem dX6_hangs_31 : decode cX6_hangs 31 = .ok (.invokevirtual 155, 3) := by decide +kernel
theorem dX6_hangs_34 : decode cX6_hangs 34 = .ok (.istore_n 3, 1) := by decide +kernel
theorem dX6_hangs_35 : decode cX6_hangs 35 = .ok (.iload_n 3, 1) := by decide +kernel
theorem dX6_hangs_36 : decode cX6_hangs 36 = .ok (.iload_n 2, 1) := by decide +kernel
theorem dX6_hangs_37 : decode cX6_hangs 37 = .ok (.if_icmp .ne 8, 3) := by decide +kernel
theorem dX6_hangs_40 : decode cX6_hangs 40 = .ok (.aload_n 0, 1) := by decide +kernel
theorem dX6_hangs_41 : decode cX6_hangs 41 = .ok (.invokevirtual 124, 3) := by decide +kernel
theorem dX6_hangs_44 : decode cX6_hangs 44 = .ok (.ireturn, 1) := by decide +kernel
theorem dX6_hangs_45 : decode cX6_hangs 45 = .ok (.aload_n 0, 1) := by decide +kernel
theorem dX6_hangs_46 : decode cX6_hangs 46 = .ok (.getfield 10, 3) := by decide +kernel
theorem dX6_hangs_49 : decode cX6_hangs 49 = .ok (.invokevirtual 127, 3) := by decide +kernel
theorem dX6_hangs_52 : decode cX6_hangs 52 = .ok (.aload_n 0, 1) := by decide +kernel
theorem dX6_hangs_53 : decode cX6_hangs 53 = .ok (.getfield 10, 3) := by decide +kernel
theorem dX6_hangs_56 : decode cX6_hangs 56 = .ok (.getfield 118, 3) := by decide +kernel
theorem dX6_hangs_59 : decode cX6_hangs 59 = .ok (.getfield 158, 3) := by decide +kernel
theorem dX6_hangs_62 : decode cX6_hangs 62 = .ok (.iload_n 1, 1) := by decide +kernel
theorem dX6_hangs_63 : decode cX6_hangs 63 = .ok (.iload_n 2, 1) := by decide +kernel
theorem dX6_hangs_64 : decode cX6_hangs 64 = .ok (.invokestatic 151, 3) := by decide +kernel
theorem dX6_hangs_67 : decode cX6_hangs 67 = .ok (.iload_n 3, 1) := by decide +kernel
theorem dX6_hangs_68 : decode cX6_hangs 68 = .ok (.ireturn, 1) := by decide +kernel
theorem dX6_undo_0 : decode cX6_undo 0 = .ok (.aload_n 0, 1) := by decide +kernel
theorem dX6_undo_1 : decode cX6_undo 1 = .ok (.getfield 10, 3) := by decide +kernel
theorem dX6_undo_4 : decode cX6_undo 4 = .ok (.getfield 161, 3) := by decide +kernel
theorem dX6_undo_7 : decode cX6_undo 7 = .ok (.ifCond .gt 8, 3) := by decide +kernel
theorem dX6_undo_10 : decode cX6_undo 10 = .ok (.aload_n 0, 1) := by decide +kernel
theorem dX6_undo_11 : decode cX6_undo 11 = .ok (.invokevirtual 124, 3) := by decide +kernel
theorem dX6_undo_14 : decode cX6_undo 14 = .ok (.ireturn, 1) := by decide +kernel
theorem dX6_undo_15 : decode cX6_undo 15 = .ok (.aload_n 0, 1) := by decide +kernel
theorem dX6_undo_16 : decode cX6_undo 16 = .ok (.getfield 10, 3) := by decide +kernel
theorem dX6_undo_19 : decode cX6_undo 19 = .ok (.invokevirtual 164, 3) := by decide +kernel
theorem dX6_undo_22 : decode cX6_undo 22 = .ok (.aload_n 0, 1) := by decide +kernel
theorem dX6_undo_23 : decode cX6_undo 23 = .ok (.getfield 10, 3) := by decide +kernel
theorem dX6_undo_26 : decode cX6_undo 26 = .ok (.getfield 118, 3) := by decide +kernel
theorem dX6_undo_29 : decode cX6_undo 29 = .ok (.getfield 121, 3) := by decide +kernel
theorem dX6_undo_32 : decode cX6_undo 32 = .ok (.ireturn, 1) := by decide +kernel
theorem dX6_of_0 : decode cX6_of 0 = .ok (.aload_n 0, 1) := by decide +kernel
theorem dX6_of_1 : decode cX6_of 1 = .ok (.iload_n 1, 1) := by decide +kernel
theorem dX6_of_2 : decode cX6_of 2 = .ok (.invokevirtual 138, 3) := by decide +kernel
theorem dX6_of_5 : decode cX6_of 5 = .ok (.ifCond .ne 13, 3) := by decide +kernel
theorem dX6_of_8 : decode cX6_of 8 = .ok (.iload_n 2, 1) := by decide +kernel
theorem dX6_of_9 : decode cX6_of 9 = .ok (.iconst 0, 1) := by decide +kernel
theorem dX6_of_10 : decode cX6_of 10 = .ok (.bipush 7, 2) := by decide +kernel
theorem dX6_of_12 : decode cX6_of 12 = .ok (.invokestatic 81, 3) := by decide +kernel
theorem dX6_of_15 : decode cX6_of 15 = .ok (.ifCond .eq 11, 3) := by decide +kernel
theorem dX6_of_18 : decode cX6_of 18 = .ok (.aload_n 0, 1) := by decide +kernel
theorem dX6_of_19 : decode cX6_of 19 = .ok (.sipush (-1002), 3) := by decide +kernel
theorem dX6_of_22 : decode cX6_of 22 = .ok (.invokevirtual 85, 3) := by decide +kernel
theorem dX6_of_25 : decode cX6_of 25 = .ok (.ireturn, 1) := by decide +kernel
theorem dX6_of_26 : decode cX6_of 26 = .ok (.aload_n 0, 1) := by decide +kernel
theorem dX6_of_27 : decode cX6_of 27 = .ok (.getfield 10, 3) := by decide +kernel
theorem dX6_of_30 : decode cX6_of 30 = .ok (.iload_n 1, 1) := by decide +kernel
theorem dX6_of_31 : decode cX6_of 31 = .ok (.iload_n 2, 1) := by decide +kernel
theorem dX6_of_32 : decode cX6_of 32 = .ok (.invokevirtual 167, 3) := by decide +kernel
theorem dX6_of_35 : decode cX6_of 35 = .ok (.ireturn, 1) := by decide +kernel
theorem dX6_touch_0 : decode cX6_touch 0 = .ok (.iload_n 1, 1) := by decide +kernel
theorem dX6_touch_1 : decode cX6_touch 1 = .ok (.iconst (-1), 1) := by decide +kernel
theorem dX6_touch_2 : decode cX6_touch 2 = .ok (.if_icmp .ge 10, 3) := by decide +kernel
theorem dX6_touch_5 : decode cX6_touch 5 = .ok (.aload_n 0, 1) := by decide +kernel
theorem dX6_touch_6 : decode cX6_touch 6 = .ok (.bipush (-10), 2) := by decide +kernel
theorem dX6_touch_8 : decode cX6_touch 8 = .ok (.invokevirtual 85, 3) := by decide +kernel
theorem dX6_touch_11 : decode cX6_touch 11 = .ok (.ireturn, 1) := by decide +kernel
theorem dX6_touch_12 : decode cX6_touch 12 = .ok (.iconst 0, 1) := by decide +kernel
theorem dX6_touch_13 : decode cX6_touch 13 = .ok (.istore_n 2, 1) := by decide +kernel
theorem dX6_touch_14 : decode cX6_touch 14 = .ok (.iconst 0, 1) := by decide +kernel
theorem dX6_touch_15 : decode cX6_touch 15 = .ok (.istore_n 3, 1) := by decide +kernel
theorem dX6_touch_16 : decode cX6_touch 16 = .ok (.iload_n 3, 1) := by decide +kernel
theorem dX6_touch_17 : decode cX6_touch 17 = .ok (.aload_n 0, 1) := by decide +kernel
theorem dX6_touch_18 : decode cX6_touch 18 = .ok (.getfield 10, 3) := by decide +kernel
theorem dX6_touch_21 : decode cX6_touch 21 = .ok (.getfield 89, 3) := by decide +kernel
theorem dX6_touch_24 : decode cX6_touch 24 = .ok (.if_icmp .ge 58, 3) := by decide +kernel
theorem dX6_touch_27 : decode cX6_touch 27 = .ok (.iload_n 3, 1) := by decide +kernel
theorem dX6_touch_28 : decode cX6_touch 28 = .ok (.iconst 1, 1) := by decide +kernel
theorem dX6_touch_29 : decode cX6_touch 29 = .ok (.iadd, 1) := by decide +kernel
theorem dX6_touch_30 : decode cX6_touch 30 = .ok (.istore 4, 2) := by decide +kernel
theorem dX6_touch_32 : decode cX6_touch 32 = .ok (.iload 4, 2) := by decide +kernel
theorem dX6_touch_34 : decode cX6_touch 34 = .ok (.aload_n 0, 1) := by decide +kernel
theorem dX6_touch_35 : decode cX6_touch 35 = .ok (.getfield 10, 3) := by decide +kernel
theorem dX6_touch_38 : decode cX6_touch 38 = .ok (.getfield 89, 3) := by decide +kernel
theorem dX6_touch_41 : decode cX6_touch 41 = .ok (.if_icmp .ge 35, 3) := by decide +kernel
theorem dX6_touch_44 : decode cX6_touch 44 = .ok (.aload_n 0, 1) := by decide +kernel
theorem dX6_touch_45 : decode cX6_touch 45 = .ok (.iload_n 3, 1) := by decide +kernel
theorem dX6_touch_46 : decode cX6_touch 46 = .ok (.iload 4, 2) := by decide +kernel
theorem dX6_touch_48 : decode cX6_touch 48 = .ok (.invokevirtual 171, 3) := by decide +kernel
theorem dX6_touch_51 : decode cX6_touch 51 = .ok (.ifCond .eq 19, 3) := by decide +kernel
theorem dX6_touch_54 : decode cX6_touch 54 = .ok (.iload_n 2, 1) := by decide +kernel
theorem dX6_touch_55 : decode cX6_touch 55 = .ok (.iload_n 1, 1) := by decide +kernel
theorem dX6_touch_56 : decode cX6_touch 56 = .ok (.if_icmp .ne 11, 3) := by decide +kernel
theorem dX6_touch_59 : decode cX6_touch 59 = .ok (.bipush 10, 2) := by decide +kernel
theorem dX6_touch_61 : decode cX6_touch 61 = .ok (.iload_n 3, 1) := by decide +kernel
theorem dX6_touch_62 : decode cX6_touch 62 = .ok (.imul, 1) := by decide +kernel
theorem dX6_touch_63 : decode cX6_touch 63 = .ok (.iload 4, 2) := by decide +kernel
theorem dX6_touch_65 : decode cX6_touch 65 = .ok (.iadd, 1) := by decide +kernel
theorem dX6_touch_66 : decode cX6_touch 66 = .ok (.ireturn, 1) := by decide +kernel
theorem dX6_touch_67 : decode cX6_touch 67 = .ok (.iinc 2 1, 3) := by decide +kernel
theorem dX6_touch_70 : decode cX6_touch 70 = .ok (.iinc 4 1, 3) := by decide +kernel
theorem dX6_touch_73 : decode cX6_touch 73 = .ok (.goto (-41), 3) := by decide +kernel
theorem dX6_touch_76 : decode cX6_touch 76 = .ok (.iinc 3 1, 3) := by decide +kernel
theorem dX6_touch_79 : decode cX6_touch 79 = .ok (.goto (-63), 3) := by decide +kernel
theorem dX6_touch_82 : decode cX6_touch 82 = .ok (.iload_n 1, 1) := by decide +kernel
theorem dX6_touch_83 : decode cX6_touch 83 = .ok (.iconst (-1), 1) := by decide +kernel
theorem dX6_touch_84 : decode cX6_touch 84 = .ok (.if_icmp .ne 7, 3) := by decide +kernel
theorem dX6_touch_87 : decode cX6_touch 87 = .ok (.iload_n 2, 1) := by decide +kernel
theorem dX6_touch_88 : decode cX6_touch 88 = .ok (.goto 5, 3) := by decide +kernel
theorem dX6_touch_91 : decode cX6_touch 91 = .ok (.bipush (-5), 2) := by decide +kernel
theorem dX6_touch_93 : decode cX6_touch 93 = .ok (.ireturn, 1) := by decide +kernel
theorem dX6_safe_0 : decode cX6_safe 0 = .ok (.aload_n 0, 1) := by decide +kernel
theorem dX6_safe_1 : decode cX6_safe 1 = .ok (.iload_n 1, 1) := by decide +kernel
theorem dX6_safe_2 : decode cX6_safe 2 = .ok (.invokevirtual 138, 3) := by decide +kernel
theorem dX6_safe_5 : decode cX6_safe 5 = .ok (.ifCond .eq 11, 3) := by decide +kernel
theorem dX6_safe_8 : decode cX6_safe 8 = .ok (.aload_n 0, 1) := by decide +kernel
theorem dX6_safe_9 : decode cX6_safe 9 = .ok (.sipush (-1002), 3) := by decide +kernel
theorem dX6_safe_12 : decode cX6_safe 12 = .ok (.invokevirtual 85, 3) := by decide +kernel
theorem dX6_safe_15 : decode cX6_safe 15 = .ok (.ireturn, 1) := by decide +kernel
theorem dX6_safe_16 : decode cX6_safe 16 = .ok (.aload_n 0, 1) := by decide +kernel
theorem dX6_safe_17 : decode cX6_safe 17 = .ok (.getfield 10, 3) := by decide +kernel
theorem dX6_safe_20 : decode cX6_safe 20 = .ok (.iload_n 1, 1) := by decide +kernel
theorem dX6_safe_21 : decode cX6_safe 21 = .ok (.invokevirtual 142, 3) := by decide +kernel
theorem dX6_safe_24 : decode cX6_safe 24 = .ok (.istore_n 2, 1) := by decide +kernel
theorem dX6_safe_25 : decode cX6_safe 25 = .ok (.iconst 0, 1) := by decide +kernel
theorem dX6_safe_26 : decode cX6_safe 26 = .ok (.istore_n 3, 1) := by decide +kernel
theorem dX6_safe_27 : decode cX6_safe 27 = .ok (.iload_n 3, 1) := by decide +kernel
theorem dX6_safe_28 : decode cX6_safe 28 = .ok (.bipush 60, 2) := by decide +kernel
theorem dX6_safe_30 : decode cX6_safe 30 = .ok (.if_icmp .gt 41, 3) := by decide +kernel
theorem dX6_safe_33 : decode cX6_safe 33 = .ok (.iload_n 2, 1) := by decide +kernel
theorem dX6_safe_34 : decode cX6_safe 34 = .ok (.invokestatic 145, 3) := by decide +kernel
theorem dX6_safe_37 : decode cX6_safe 37 = .ok (.ifCond .eq 5, 3) := by decide +kernel
theorem dX6_safe_40 : decode cX6_safe 40 = .ok (.iload_n 3, 1) := by decide +kernel
theorem dX6_safe_41 : decode cX6_safe 41 = .ok (.ireturn, 1) := by decide +kernel
theorem dX6_safe_42 : decode cX6_safe 42 = .ok (.iload_n 2, 1) := by decide +kernel
theorem dX6_safe_43 : decode cX6_safe 43 = .ok (.aload_n 0, 1) := by decide +kernel
theorem dX6_safe_44 : decode cX6_safe 44 = .ok (.getfield 10, 3) := by decide +kernel
theorem dX6_safe_47 : decode cX6_safe 47 = .ok (.iload_n 1, 1) := by decide +kernel
theorem dX6_safe_48 : decode cX6_safe 48 = .ok (.invokevirtual 175, 3) := by decide +kernel
theorem dX6_safe_51 : decode cX6_safe 51 = .ok (.aload_n 0, 1) := by decide +kernel
theorem dX6_safe_52 : decode cX6_safe 52 = .ok (.getfield 10, 3) := by decide +kernel
theorem dX6_safe_55 : decode cX6_safe 55 = .ok (.getfield 118, 3) := by decide +kernel
theorem dX6_safe_58 : decode cX6_safe 58 = .ok (.getfield 178, 3) := by decide +kernel
theorem dX6_safe_61 : decode cX6_safe 61 = .ok (.invokestatic 181, 3) := by decide +kernel
theorem dX6_safe_64 : decode cX6_safe 64 = .ok (.istore_n 2, 1) := by decide +kernel
theorem dX6_safe_65 : decode cX6_safe 65 = .ok (.iinc 3 1, 3) := by decide +kernel
theorem dX6_safe_68 : decode cX6_safe 68 = .ok (.goto (-41), 3) := by decide +kernel
theorem dX6_safe_71 : decode cX6_safe 71 = .ok (.sipush (-1001), 3) := by decide +kernel
theorem dX6_safe_74 : decode cX6_safe 74 = .ok (.ireturn, 1) := by decide +kernel
theorem dX6_few_0 : decode cX6_few 0 = .ok (.aload_n 0, 1) := by decide +kernel
theorem dX6_few_1 : decode cX6_few 1 = .ok (.iload_n 1, 1) := by decide +kernel
theorem dX6_few_2 : decode cX6_few 2 = .ok (.invokevirtual 138, 3) := by decide +kernel
theorem dX6_few_5 : decode cX6_few 5 = .ok (.ifCond .ne 15, 3) := by decide +kernel
theorem dX6_few_8 : decode cX6_few 8 = .ok (.iload_n 2, 1) := by decide +kernel
theorem dX6_few_9 : decode cX6_few 9 = .ok (.invokestatic 185, 3) := by decide +kernel
theorem dX6_few_12 : decode cX6_few 12 = .ok (.ifCond .ne 8, 3) := by decide +kernel
theorem dX6_few_15 : decode cX6_few 15 = .ok (.iload_n 3, 1) := by decide +kernel
theorem dX6_few_16 : decode cX6_few 16 = .ok (.iconst (-1), 1) := by decide +kernel
theorem dX6_few_17 : decode cX6_few 17 = .ok (.if_icmp .ge 10, 3) := by decide +kernel
theorem dX6_few_20 : decode cX6_few 20 = .ok (.aload_n 0, 1) := by decide +kernel
theorem dX6_few_21 : decode cX6_few 21 = .ok (.bipush (-10), 2) := by decide +kernel
theorem dX6_few_23 : decode cX6_few 23 = .ok (.invokevirtual 85, 3) := by decide +kernel
theorem dX6_few_26 : decode cX6_few 26 = .ok (.ireturn, 1) := by decide +kernel
theorem dX6_few_27 : decode cX6_few 27 = .ok (.aload_n 0, 1) := by decide +kernel
theorem dX6_few_28 : decode cX6_few 28 = .ok (.getfield 42, 3) := by decide +kernel
theorem dX6_few_31 : decode cX6_few 31 = .ok (.aload_n 0, 1) := by decide +kernel
theorem dX6_few_32 : decode cX6_few 32 = .ok (.getfield 10, 3) := by decide +kernel
theorem dX6_few_35 : decode cX6_few 35 = .ok (.iload_n 1, 1) := by decide +kernel
theorem dX6_few_36 : decode cX6_few 36 = .ok (.iload_n 2, 1) := by decide +kernel
theorem dX6_few_37 : decode cX6_few 37 = .ok (.iload_n 1, 1) := by decide +kernel
theorem dX6_few_38 : decode cX6_few 38 = .ok (.iload_n 2, 1) := by decide +kernel
theorem dX6_few_39 : decode cX6_few 39 = .ok (.invokevirtual 188, 3) := by decide +kernel
theorem dX6_few_42 : decode cX6_few 42 = .ok (.istore 4, 2) := by decide +kernel
theorem dX6_few_44 : decode cX6_few 44 = .ok (.iload 4, 2) := by decide +kernel
theorem dX6_few_46 : decode cX6_few 46 = .ok (.ifCond .ge 6, 3) := by decide +kernel
theorem dX6_few_49 : decode cX6_few 49 = .ok (.bipush (-6), 2) := by decide +kernel
theorem dX6_few_51 : decode cX6_few 51 = .ok (.ireturn, 1) := by decide +kernel
theorem dX6_few_52 : decode cX6_few 52 = .ok (.iload_n 3, 1) := by decide +kernel
theorem dX6_few_53 : decode cX6_few 53 = .ok (.iconst (-1), 1) := by decide +kernel
theorem dX6_few_54 : decode cX6_few 54 = .ok (.if_icmp .ne 6, 3) := by decide +kernel
theorem dX6_few_57 : decode cX6_few 57 = .ok (.iload 4, 2) := by decide +kernel
theorem dX6_few_59 : decode cX6_few 59 = .ok (.ireturn, 1) := by decide +kernel
theorem dX6_few_60 : decode cX6_few 60 = .ok (.iload_n 3, 1) := by decide +kernel
theorem dX6_few_61 : decode cX6_few 61 = .ok (.iload 4, 2) := by decide +kernel
theorem dX6_few_63 : decode cX6_few 63 = .ok (.if_icmp .ge 17, 3) := by decide +kernel
theorem dX6_few_66 : decode cX6_few 66 = .ok (.aload_n 0, 1) := by decide +kernel
theorem dX6_few_67 : decode cX6_few 67 = .ok (.getfield 42, 3) := by decide +kernel
theorem dX6_few_70 : decode cX6_few 70 = .ok (.getfield 192, 3) := by decide +kernel
theorem dX6_few_73 : decode cX6_few 73 = .ok (.iload_n 3, 1) := by decide +kernel
theorem dX6_few_74 : decode cX6_few 74 = .ok (.invokestatic 195, 3) := by decide +kernel
theorem dX6_few_77 : decode cX6_few 77 = .ok (.goto 5, 3) := by decide +kernel
theorem dX6_few_80 : decode cX6_few 80 = .ok (.bipush (-5), 2) := by decide +kernel
theorem dX6_few_82 : decode cX6_few 82 = .ok (.ireturn, 1) := by decide +kernel
theorem dX6_both_0 : decode cX6_both 0 = .ok (.aload_n 0, 1) := by decide +kernel
theorem dX6_both_1 : decode cX6_both 1 = .ok (.iload_n 1, 1) := by decide +kernel
theorem dX6_both_2 : decode cX6_both 2 = .ok (.invokevirtual 138, 3) := by decide +kernel
theorem dX6_both_5 : decode cX6_both 5 = .ok (.ifCond .ne 31, 3) := by decide +kernel
theorem dX6_both_8 : decode cX6_both 8 = .ok (.iload_n 2, 1) := by decide +kernel
theorem dX6_both_9 : decode cX6_both 9 = .ok (.invokestatic 185, 3) := by decide +kernel
theorem dX6_both_12 : decode cX6_both 12 = .ok (.ifCond .ne 24, 3) := by decide +kernel
theorem dX6_both_15 : decode cX6_both 15 = .ok (.aload_n 0, 1) := by decide +kernel
theorem dX6_both_16 : decode cX6_both 16 = .ok (.iload_n 3, 1) := by decide +kernel
theorem dX6_both_17 : decode cX6_both 17 = .ok (.invokevirtual 138, 3) := by decide +kernel
theorem dX6_both_20 : decode cX6_both 20 = .ok (.ifCond .ne 16, 3) := by decide +kernel
theorem dX6_both_23 : decode cX6_both 23 = .ok (.iload 4, 2) := by decide +kernel
theorem dX6_both_25 : decode cX6_both 25 = .ok (.invokestatic 185, 3) := by decide +kernel
theorem dX6_both_28 : decode cX6_both 28 = .ok (.ifCond .ne 8, 3) := by decide +kernel
theorem dX6_both_31 : decode cX6_both 31 = .ok (.iload_n 1, 1) := by decide +kernel
theorem dX6_both_32 : decode cX6_both 32 = .ok (.iload_n 3, 1) := by decide +kernel
theorem dX6_both_33 : decode cX6_both 33 = .ok (.if_icmp .ne 11, 3) := by decide +kernel
theorem dX6_both_36 : decode cX6_both 36 = .ok (.aload_n 0, 1) := by decide +kernel
theorem dX6_both_37 : decode cX6_both 37 = .ok (.sipush (-1002), 3) := by decide +kernel
theorem dX6_both_40 : decode cX6_both 40 = .ok (.invokevirtual 85, 3) := by decide +kernel
theorem dX6_both_43 : decode cX6_both 43 = .ok (.ireturn, 1) := by decide +kernel
theorem dX6_both_44 : decode cX6_both 44 = .ok (.aload_n 0, 1) := by decide +kernel
theorem dX6_both_45 : decode cX6_both 45 = .ok (.getfield 42, 3) := by decide +kernel
theorem dX6_both_48 : decode cX6_both 48 = .ok (.aload_n 0, 1) := by decide +kernel
theorem dX6_both_49 : decode cX6_both 49 = .ok (.getfield 10, 3) := by decide +kernel
theorem dX6_both_52 : decode cX6_both 52 = .ok (.iload_n 1, 1) := by decide +kernel
theorem dX6_both_53 : decode cX6_both 53 = .ok (.iload_n 2, 1) := by decide +kernel
theorem dX6_both_54 : decode cX6_both 54 = .ok (.iload_n 3, 1) := by decide +kernel
theorem dX6_both_55 : decode cX6_both 55 = .ok (.iload 4, 2) := by decide +kernel
theorem dX6_both_57 : decode cX6_both 57 = .ok (.invokevirtual 188, 3) := by decide +kernel
theorem dX6_both_60 : decode cX6_both 60 = .ok (.istore 5, 2) := by decide +kernel
theorem dX6_both_62 : decode cX6_both 62 = .ok (.iload 5, 2) := by decide +kernel
theorem dX6_both_64 : decode cX6_both 64 = .ok (.ifCond .ge 9, 3) := by decide +kernel
theorem dX6_both_67 : decode cX6_both 67 = .ok (.sipush (-1001), 3) := by decide +kernel
theorem dX6_both_70 : decode cX6_both 70 = .ok (.goto 5, 3) := by decide +kernel
theorem dX6_both_73 : decode cX6_both 73 = .ok (.iload 5, 2) := by decide +kernel
theorem dX6_both_75 : decode cX6_both 75 = .ok (.ireturn, 1) := by decide +kernel
theorem dX6_hole_0 : decode cX6_hole 0 = .ok (.aload_n 0, 1) := by decide +kernel
theorem dX6_hole_1 : decode cX6_hole 1 = .ok (.iload_n 1, 1) := by decide +kernel
theorem dX6_hole_2 : decode cX6_hole 2 = .ok (.invokevirtual 138, 3) := by decide +kernel
theorem dX6_hole_5 : decode cX6_hole 5 = .ok (.ifCond .ne 19, 3) := by decide +kernel
theorem dX6_hole_8 : decode cX6_hole 8 = .ok (.iload_n 2, 1) := by decide +kernel
theorem dX6_hole_9 : decode cX6_hole 9 = .ok (.invokestatic 185, 3) := by decide +kernel
theorem dX6_hole_12 : decode cX6_hole 12 = .ok (.ifCond .ne 12, 3) := by decide +kernel
theorem dX6_hole_15 : decode cX6_hole 15 = .ok (.iload_n 3, 1) := by decide +kernel
theorem dX6_hole_16 : decode cX6_hole 16 = .ok (.iconst 0, 1) := by decide +kernel
theorem dX6_hole_17 : decode cX6_hole 17 = .ok (.iconst 1, 1) := by decide +kernel
theorem dX6_hole_18 : decode cX6_hole 18 = .ok (.invokestatic 81, 3) := by decide +kernel
theorem dX6_hole_21 : decode cX6_hole 21 = .ok (.ifCond .eq 11, 3) := by decide +kernel
theorem dX6_hole_24 : decode cX6_hole 24 = .ok (.aload_n 0, 1) := by decide +kernel
theorem dX6_hole_25 : decode cX6_hole 25 = .ok (.sipush (-1002), 3) := by decide +kernel
theorem dX6_hole_28 : decode cX6_hole 28 = .ok (.invokevirtual 85, 3) := by decide +kernel
theorem dX6_hole_31 : decode cX6_hole 31 = .ok (.ireturn, 1) := by decide +kernel
theorem dX6_hole_32 : decode cX6_hole 32 = .ok (.iconst 0, 1) := by decide +kernel
theorem dX6_hole_33 : decode cX6_hole 33 = .ok (.istore 4, 2) := by decide +kernel
theorem dX6_hole_35 : decode cX6_hole 35 = .ok (.aload_n 0, 1) := by decide +kernel
theorem dX6_hole_36 : decode cX6_hole 36 = .ok (.iload_n 1, 1) := by decide +kernel
theorem dX6_hole_37 : decode cX6_hole 37 = .ok (.iload_n 2, 1) := by decide +kernel
theorem dX6_hole_38 : decode cX6_hole 38 = .ok (.iconst 0, 1) := by decide +kernel
theorem dX6_hole_39 : decode cX6_hole 39 = .ok (.invokevirtual 199, 3) := by decide +kernel
theorem dX6_hole_42 : decode cX6_hole 42 = .ok (.istore 5, 2) := by decide +kernel
theorem dX6_hole_44 : decode cX6_hole 44 = .ok (.iconst 1, 1) := by decide +kernel
theorem dX6_hole_45 : decode cX6_hole 45 = .ok (.istore 6, 2) := by decide +kernel
theorem dX6_hole_47 : decode cX6_hole 47 = .ok (.iload 6, 2) := by decide +kernel
theorem dX6_hole_49 : decode cX6_hole 49 = .ok (.bipush 8, 2) := by decide +kernel
theorem dX6_hole_51 : decode cX6_hole 51 = .ok (.if_icmp .gt 34, 3) := by decide +kernel
theorem dX6_hole_54 : decode cX6_hole 54 = .ok (.aload_n 0, 1) := by decide +kernel
theorem dX6_hole_55 : decode cX6_hole 55 = .ok (.iload_n 1, 1) := by decide +kernel
theorem dX6_hole_56 : decode cX6_hole 56 = .ok (.iload_n 2, 1) := by decide +kernel
theorem dX6_hole_57 : decode cX6_hole 57 = .ok (.iload 6, 2) := by decide +kernel
theorem dX6_hole_59 : decode cX6_hole 59 = .ok (.invokevirtual 199, 3) := by decide +kernel
theorem dX6_hole_62 : decode cX6_hole 62 = .ok (.istore 7, 2) := by decide +kernel
theorem dX6_hole_64 : decode cX6_hole 64 = .ok (.iload 7, 2) := by decide +kernel
theorem dX6_hole_66 : decode cX6_hole 66 = .ok (.iload 5, 2) := by decide +kernel
theorem dX6_hole_68 : decode cX6_hole 68 = .ok (.if_icmp .ge 11, 3) := by decide +kernel
theorem dX6_hole_71 : decode cX6_hole 71 = .ok (.iload 6, 2) := by decide +kernel
theorem dX6_hole_73 : decode cX6_hole 73 = .ok (.istore 4, 2) := by decide +kernel
theorem dX6_hole_75 : decode cX6_hole 75 = .ok (.iload 7, 2) := by decide +kernel
theorem dX6_hole_77 : decode cX6_hole 77 = .ok (.istore 5, 2) := by decide +kernel
theorem dX6_hole_79 : decode cX6_hole 79 = .ok (.iinc 6 1, 3) := by decide +kernel
theorem dX6_hole_82 : decode cX6_hole 82 = .ok (.goto (-35), 3) := by decide +kernel
theorem dX6_hole_85 : decode cX6_hole 85 = .ok (.iload_n 3, 1) := by decide +kernel
theorem dX6_hole_86 : decode cX6_hole 86 = .ok (.ifCond .ne 8, 3) := by decide +kernel
theorem dX6_hole_89 : decode cX6_hole 89 = .ok (.iload 4, 2) := by decide +kernel
theorem dX6_hole_91 : decode cX6_hole 91 = .ok (.goto 5, 3) := by decide +kernel
theorem dX6_hole_94 : decode cX6_hole 94 = .ok (.iload 5, 2) := by decide +kernel
theorem dX6_hole_96 : decode cX6_hole 96 = .ok (.ireturn, 1) := by decide +kernel
theorem dX6_beat_0 : decode cX6_beat 0 = .ok (.iload_n 1, 1) := by decide +kernel
theorem dX6_beat_1 : decode cX6_beat 1 = .ok (.iconst 0, 1) := by decide +kernel
theorem dX6_beat_2 : decode cX6_beat 2 = .ok (.bipush 7, 2) := by decide +kernel
theorem dX6_beat_4 : decode cX6_beat 4 = .ok (.invokestatic 81, 3) := by decide +kernel
theorem dX6_beat_7 : decode cX6_beat 7 = .ok (.ifCond .ne 19, 3) := by decide +kernel
theorem dX6_beat_10 : decode cX6_beat 10 = .ok (.iload_n 2, 1) := by decide +kernel
theorem dX6_beat_11 : decode cX6_beat 11 = .ok (.iconst 0, 1) := by decide +kernel
theorem dX6_beat_12 : decode cX6_beat 12 = .ok (.iconst 4, 1) := by decide +kernel
theorem dX6_beat_13 : decode cX6_beat 13 = .ok (.invokestatic 81, 3) := by decide +kernel
theorem dX6_beat_16 : decode cX6_beat 16 = .ok (.ifCond .ne 10, 3) := by decide +kernel
theorem dX6_beat_19 : decode cX6_beat 19 = .ok (.iload_n 3, 1) := by decide +kernel
theorem dX6_beat_20 : decode cX6_beat 20 = .ok (.invokestatic 185, 3) := by decide +kernel
theorem dX6_beat_23 : decode cX6_beat 23 = .ok (.ifCond .eq 11, 3) := by decide +kernel
theorem dX6_beat_26 : decode cX6_beat 26 = .ok (.aload_n 0, 1) := by decide +kernel
theorem dX6_beat_27 : decode cX6_beat 27 = .ok (.sipush (-1002), 3) := by decide +kernel
theorem dX6_beat_30 : decode cX6_beat 30 = .ok (.invokevirtual 85, 3) := by decide +kernel
theorem dX6_beat_33 : decode cX6_beat 33 = .ok (.ireturn, 1) := by decide +kernel
theorem dX6_beat_34 : decode cX6_beat 34 = .ok (.aload_n 0, 1) := by decide +kernel
theorem dX6_beat_35 : decode cX6_beat 35 = .ok (.getfield 10, 3) := by decide +kernel
theorem dX6_beat_38 : decode cX6_beat 38 = .ok (.getfield 202, 3) := by decide +kernel
theorem dX6_beat_41 : decode cX6_beat 41 = .ok (.iload_n 1, 1) := by decide +kernel
theorem dX6_beat_42 : decode cX6_beat 42 = .ok (.invokestatic 195, 3) := by decide +kernel
theorem dX6_beat_45 : decode cX6_beat 45 = .ok (.istore 4, 2) := by decide +kernel
theorem dX6_beat_47 : decode cX6_beat 47 = .ok (.aload_n 0, 1) := by decide +kernel
theorem dX6_beat_48 : decode cX6_beat 48 = .ok (.getfield 10, 3) := by decide +kernel
theorem dX6_beat_51 : decode cX6_beat 51 = .ok (.getfield 202, 3) := by decide +kernel
theorem dX6_beat_54 : decode cX6_beat 54 = .ok (.iload_n 1, 1) := by decide +kernel
theorem dX6_beat_55 : decode cX6_beat 55 = .ok (.iload_n 2, 1) := by decide +kernel
theorem dX6_beat_56 : decode cX6_beat 56 = .ok (.invokestatic 151, 3) := by decide +kernel
theorem dX6_beat_59 : decode cX6_beat 59 = .ok (.aload_n 0, 1) := by decide +kernel
theorem dX6_beat_60 : decode cX6_beat 60 = .ok (.getfield 10, 3) := by decide +kernel
theorem dX6_beat_63 : decode cX6_beat 63 = .ok (.getfield 205, 3) := by decide +kernel
theorem dX6_beat_66 : decode cX6_beat 66 = .ok (.iload_n 1, 1) := by decide +kernel
theorem dX6_beat_67 : decode cX6_beat 67 = .ok (.iload_n 3, 1) := by decide +kernel
theorem dX6_beat_68 : decode cX6_beat 68 = .ok (.invokestatic 151, 3) := by decide +kernel
theorem dX6_beat_71 : decode cX6_beat 71 = .ok (.iload 4, 2) := by decide +kernel
theorem dX6_beat_73 : decode cX6_beat 73 = .ok (.ireturn, 1) := by decide +kernel
theorem dX6_dance_0 : decode cX6_dance 0 = .ok (.iload_n 1, 1) := by decide +kernel
theorem dX6_dance_1 : decode cX6_dance 1 = .ok (.iconst 0, 1) := by decide +kernel
theorem dX6_dance_2 : decode cX6_dance 2 = .ok (.bipush 6, 2) := by decide +kernel
theorem dX6_dance_4 : decode cX6_dance 4 = .ok (.invokestatic 81, 3) := by decide +kernel
theorem dX6_dance_7 : decode cX6_dance 7 = .ok (.ifCond .eq 11, 3) := by decide +kernel
theorem dX6_dance_10 : decode cX6_dance 10 = .ok (.aload_n 0, 1) := by decide +kernel
theorem dX6_dance_11 : decode cX6_dance 11 = .ok (.sipush (-1002), 3) := by decide +kernel
theorem dX6_dance_14 : decode cX6_dance 14 = .ok (.invokevirtual 85, 3) := by decide +kernel
theorem dX6_dance_17 : decode cX6_dance 17 = .ok (.ireturn, 1) := by decide +kernel
theorem dX6_dance_18 : decode cX6_dance 18 = .ok (.aload_n 0, 1) := by decide +kernel
theorem dX6_dance_19 : decode cX6_dance 19 = .ok (.getfield 10, 3) := by decide +kernel
theorem dX6_dance_22 : decode cX6_dance 22 = .ok (.getfield 208, 3) := by decide +kernel
theorem dX6_dance_25 : decode cX6_dance 25 = .ok (.istore_n 2, 1) := by decide +kernel
theorem dX6_dance_26 : decode cX6_dance 26 = .ok (.aload_n 0, 1) := by decide +kernel
theorem dX6_dance_27 : decode cX6_dance 27 = .ok (.getfield 10, 3) := by decide +kernel
theorem dX6_dance_30 : decode cX6_dance 30 = .ok (.iload_n 1, 1) := by decide +kernel
theorem dX6_dance_31 : decode cX6_dance 31 = .ok (.putfield 208, 3) := by decide +kernel
theorem dX6_dance_34 : decode cX6_dance 34 = .ok (.iload_n 2, 1) := by decide +kernel
theorem dX6_dance_35 : decode cX6_dance 35 = .ok (.ireturn, 1) := by decide +kernel
theorem dX6_comesOut_0 : decode cX6_comesOut 0 = .ok (.aload_n 0, 1) := by decide +kernel
theorem dX6_comesOut_1 : decode cX6_comesOut 1 = .ok (.aload_n 0, 1) := by decide +kernel
theorem dX6_comesOut_2 : decode cX6_comesOut 2 = .ok (.getfield 10, 3) := by decide +kernel
theorem dX6_comesOut_5 : decode cX6_comesOut 5 = .ok (.getfield 208, 3) := by decide +kernel
theorem dX6_comesOut_8 : decode cX6_comesOut 8 = .ok (.invokevirtual 138, 3) := by decide +kernel
theorem dX6_comesOut_11 : decode cX6_comesOut 11 = .ok (.ifCond .eq 5, 3) := by decide +kernel
theorem dX6_comesOut_14 : decode cX6_comesOut 14 = .ok (.iconst 0, 1) := by decide +kernel
theorem dX6_comesOut_15 : decode cX6_comesOut 15 = .ok (.ireturn, 1) := by decide +kernel
theorem dX6_comesOut_16 : decode cX6_comesOut 16 = .ok (.iconst 0, 1) := by decide +kernel
theorem dX6_comesOut_17 : decode cX6_comesOut 17 = .ok (.istore_n 1, 1) := by decide +kernel
theorem dX6_comesOut_18 : decode cX6_comesOut 18 = .ok (.aload_n 0, 1) := by decide +kernel
theorem dX6_comesOut_19 : decode cX6_comesOut 19 = .ok (.getfield 56, 3) := by decide +kernel
theorem dX6_comesOut_22 : decode cX6_comesOut 22 = .ok (.aload_n 0, 1) := by decide +kernel
theorem dX6_comesOut_23 : decode cX6_comesOut 23 = .ok (.getfield 10, 3) := by decide +kernel
theorem dX6_comesOut_26 : decode cX6_comesOut 26 = .ok (.getfield 118, 3) := by decide +kernel
theorem dX6_comesOut_29 : decode cX6_comesOut 29 = .ok (.invokevirtual 211, 3) := by decide +kernel
theorem dX6_comesOut_32 : decode cX6_comesOut 32 = .ok (.iconst 0, 1) := by decide +kernel
theorem dX6_comesOut_33 : decode cX6_comesOut 33 = .ok (.istore_n 2, 1) := by decide +kernel
theorem dX6_comesOut_34 : decode cX6_comesOut 34 = .ok (.iload_n 2, 1) := by decide +kernel
theorem dX6_comesOut_35 : decode cX6_comesOut 35 = .ok (.bipush 8, 2) := by decide +kernel
theorem dX6_comesOut_37 : decode cX6_comesOut 37 = .ok (.if_icmp .ge 66, 3) := by decide +kernel
theorem dX6_comesOut_40 : decode cX6_comesOut 40 = .ok (.aload_n 0, 1) := by decide +kernel
theorem dX6_comesOut_41 : decode cX6_comesOut 41 = .ok (.getfield 10, 3) := by decide +kernel
theorem dX6_comesOut_44 : decode cX6_comesOut 44 = .ok (.aload_n 0, 1) := by decide +kernel
theorem dX6_comesOut_45 : decode cX6_comesOut 45 = .ok (.getfield 56, 3) := by decide +kernel
theorem dX6_comesOut_48 : decode cX6_comesOut 48 = .ok (.aload_n 0, 1) := by decide +kernel
theorem dX6_comesOut_49 : decode cX6_comesOut 49 = .ok (.getfield 10, 3) := by decide +kernel
theorem dX6_comesOut_52 : decode cX6_comesOut 52 = .ok (.getfield 202, 3) := by decide +kernel
theorem dX6_comesOut_55 : decode cX6_comesOut 55 = .ok (.iload_n 2, 1) := by decide +kernel
theorem dX6_comesOut_56 : decode cX6_comesOut 56 = .ok (.invokestatic 195, 3) := by decide +kernel
theorem dX6_comesOut_59 : decode cX6_comesOut 59 = .ok (.invokevirtual 130, 3) := by decide +kernel
theorem dX6_comesOut_62 : decode cX6_comesOut 62 = .ok (.aload_n 0, 1) := by decide +kernel
theorem dX6_comesOut_63 : decode cX6_comesOut 63 = .ok (.getfield 10, 3) := by decide +kernel
theorem dX6_comesOut_66 : decode cX6_comesOut 66 = .ok (.aload_n 0, 1) := by decide +kernel
theorem dX6_comesOut_67 : decode cX6_comesOut 67 = .ok (.getfield 56, 3) := by decide +kernel
theorem dX6_comesOut_70 : decode cX6_comesOut 70 = .ok (.aload_n 0, 1) := by decide +kernel
theorem dX6_comesOut_71 : decode cX6_comesOut 71 = .ok (.getfield 10, 3) := by decide +kernel
theorem dX6_comesOut_74 : decode cX6_comesOut 74 = .ok (.getfield 208, 3) := by decide +kernel
theorem dX6_comesOut_77 : decode cX6_comesOut 77 = .ok (.invokevirtual 214, 3) := by decide +kernel
theorem dX6_comesOut_80 : decode cX6_comesOut 80 = .ok (.aload_n 0, 1) := by decide +kernel
theorem dX6_comesOut_81 : decode cX6_comesOut 81 = .ok (.getfield 10, 3) := by decide +kernel
theorem dX6_comesOut_84 : decode cX6_comesOut 84 = .ok (.getfield 205, 3) := by decide +kernel
theorem dX6_comesOut_87 : decode cX6_comesOut 87 = .ok (.iload_n 2, 1) := by decide +kernel
theorem dX6_comesOut_88 : decode cX6_comesOut 88 = .ok (.invokestatic 195, 3) := by decide +kernel
theorem dX6_comesOut_91 : decode cX6_comesOut 91 = .ok (.if_icmp .ne 6, 3) := by decide +kernel
theorem dX6_comesOut_94 : decode cX6_comesOut 94 = .ok (.iinc 1 1, 3) := by decide +kernel
theorem dX6_comesOut_97 : decode cX6_comesOut 97 = .ok (.iinc 2 1, 3) := by decide +kernel
theorem dX6_comesOut_100 : decode cX6_comesOut 100 = .ok (.goto (-66), 3) := by decide +kernel
theorem dX6_comesOut_103 : decode cX6_comesOut 103 = .ok (.iload_n 1, 1) := by decide +kernel
theorem dX6_comesOut_104 : decode cX6_comesOut 104 = .ok (.ireturn, 1) := by decide +kernel
theorem dX6_snaps_0 : decode cX6_snaps 0 = .ok (.aload_n 0, 1) := by decide +kernel
theorem dX6_snaps_1 : decode cX6_snaps 1 = .ok (.getfield 56, 3) := by decide +kernel
theorem dX6_snaps_4 : decode cX6_snaps 4 = .ok (.aload_n 0, 1) := by decide +kernel
theorem dX6_snaps_5 : decode cX6_snaps 5 = .ok (.getfield 10, 3) := by decide +kernel
theorem dX6_snaps_8 : decode cX6_snaps 8 = .ok (.getfield 118, 3) := by decide +kernel
theorem dX6_snaps_11 : decode cX6_snaps 11 = .ok (.invokevirtual 211, 3) := by decide +kernel
theorem dX6_snaps_14 : decode cX6_snaps 14 = .ok (.aload_n 0, 1) := by decide +kernel
theorem dX6_snaps_15 : decode cX6_snaps 15 = .ok (.getfield 10, 3) := by decide +kernel
theorem dX6_snaps_18 : decode cX6_snaps 18 = .ok (.aload_n 0, 1) := by decide +kernel
theorem dX6_snaps_19 : decode cX6_snaps 19 = .ok (.getfield 56, 3) := by decide +kernel
theorem dX6_snaps_22 : decode cX6_snaps 22 = .ok (.invokevirtual 134, 3) := by decide +kernel
theorem dX6_snaps_25 : decode cX6_snaps 25 = .ok (.istore_n 1, 1) := by decide +kernel
theorem dX6_snaps_26 : decode cX6_snaps 26 = .ok (.iconst 0, 1) := by decide +kernel
theorem dX6_snaps_27 : decode cX6_snaps 27 = .ok (.istore_n 2, 1) := by decide +kernel
theorem dX6_snaps_28 : decode cX6_snaps 28 = .ok (.iload_n 2, 1) := by decide +kernel
theorem dX6_snaps_29 : decode cX6_snaps 29 = .ok (.bipush 8, 2) := by decide +kernel
theorem dX6_snaps_31 : decode cX6_snaps 31 = .ok (.if_icmp .ge 48, 3) := by decide +kernel
theorem dX6_snaps_34 : decode cX6_snaps 34 = .ok (.aload_n 0, 1) := by decide +kernel
theorem dX6_snaps_35 : decode cX6_snaps 35 = .ok (.getfield 10, 3) := by decide +kernel
theorem dX6_snaps_38 : decode cX6_snaps 38 = .ok (.aload_n 0, 1) := by decide +kernel
theorem dX6_snaps_39 : decode cX6_snaps 39 = .ok (.getfield 56, 3) := by decide +kernel
theorem dX6_snaps_42 : decode cX6_snaps 42 = .ok (.aload_n 0, 1) := by decide +kernel
theorem dX6_snaps_43 : decode cX6_snaps 43 = .ok (.getfield 10, 3) := by decide +kernel
theorem dX6_snaps_46 : decode cX6_snaps 46 = .ok (.getfield 202, 3) := by decide +kernel
theorem dX6_snaps_49 : decode cX6_snaps 49 = .ok (.iload_n 2, 1) := by decide +kernel
theorem dX6_snaps_50 : decode cX6_snaps 50 = .ok (.invokestatic 195, 3) := by decide +kernel
theorem dX6_snaps_53 : decode cX6_snaps 53 = .ok (.invokevirtual 130, 3) := by decide +kernel
theorem dX6_snaps_56 : decode cX6_snaps 56 = .ok (.aload_n 0, 1) := by decide +kernel
theorem dX6_snaps_57 : decode cX6_snaps 57 = .ok (.getfield 10, 3) := by decide +kernel
theorem dX6_snaps_60 : decode cX6_snaps 60 = .ok (.aload_n 0, 1) := by decide +kernel
theorem dX6_snaps_61 : decode cX6_snaps 61 = .ok (.getfield 56, 3) := by decide +kernel
theorem dX6_snaps_64 : decode cX6_snaps 64 = .ok (.invokevirtual 134, 3) := by decide +kernel
theorem dX6_snaps_67 : decode cX6_snaps 67 = .ok (.iload_n 1, 1) := by decide +kernel
theorem dX6_snaps_68 : decode cX6_snaps 68 = .ok (.if_icmp .le 5, 3) := by decide +kernel
theorem dX6_snaps_71 : decode cX6_snaps 71 = .ok (.iload_n 2, 1) := by decide +kernel
theorem dX6_snaps_72 : decode cX6_snaps 72 = .ok (.ireturn, 1) := by decide +kernel
theorem dX6_snaps_73 : decode cX6_snaps 73 = .ok (.iinc 2 1, 3) := by decide +kernel
theorem dX6_snaps_76 : decode cX6_snaps 76 = .ok (.goto (-48), 3) := by decide +kernel
theorem dX6_snaps_79 : decode cX6_snaps 79 = .ok (.sipush (-1001), 3) := by decide +kernel
theorem dX6_snaps_82 : decode cX6_snaps 82 = .ok (.ireturn, 1) := by decide +kernel
theorem dX6_seen_0 : decode cX6_seen 0 = .ok (.aload_n 0, 1) := by decide +kernel
theorem dX6_seen_1 : decode cX6_seen 1 = .ok (.iload_n 1, 1) := by decide +kernel
theorem dX6_seen_2 : decode cX6_seen 2 = .ok (.invokevirtual 138, 3) := by decide +kernel
theorem dX6_seen_5 : decode cX6_seen 5 = .ok (.ifCond .ne 31, 3) := by decide +kernel
theorem dX6_seen_8 : decode cX6_seen 8 = .ok (.iload_n 2, 1) := by decide +kernel
theorem dX6_seen_9 : decode cX6_seen 9 = .ok (.iconst 1, 1) := by decide +kernel
theorem dX6_seen_10 : decode cX6_seen 10 = .ok (.bipush 20, 2) := by decide +kernel
theorem dX6_seen_12 : decode cX6_seen 12 = .ok (.invokestatic 81, 3) := by decide +kernel
theorem dX6_seen_15 : decode cX6_seen 15 = .ok (.ifCond .ne 21, 3) := by decide +kernel
theorem dX6_seen_18 : decode cX6_seen 18 = .ok (.iload_n 3, 1) := by decide +kernel
theorem dX6_seen_19 : decode cX6_seen 19 = .ok (.iconst 0, 1) := by decide +kernel
theorem dX6_seen_20 : decode cX6_seen 20 = .ok (.bipush 60, 2) := by decide +kernel
theorem dX6_seen_22 : decode cX6_seen 22 = .ok (.invokestatic 81, 3) := by decide +kernel
theorem dX6_seen_25 : decode cX6_seen 25 = .ok (.ifCond .ne 11, 3) := by decide +kernel
theorem dX6_seen_28 : decode cX6_seen 28 = .ok (.iload 4, 2) := by decide +kernel
theorem dX6_seen_30 : decode cX6_seen 30 = .ok (.invokestatic 185, 3) := by decide +kernel
theorem dX6_seen_33 : decode cX6_seen 33 = .ok (.ifCond .eq 11, 3) := by decide +kernel
theorem dX6_seen_36 : decode cX6_seen 36 = .ok (.aload_n 0, 1) := by decide +kernel
theorem dX6_seen_37 : decode cX6_seen 37 = .ok (.sipush (-1002), 3) := by decide +kernel
theorem dX6_seen_40 : decode cX6_seen 40 = .ok (.invokevirtual 85, 3) := by decide +kernel
theorem dX6_seen_43 : decode cX6_seen 43 = .ok (.ireturn, 1) := by decide +kernel
theorem dX6_seen_44 : decode cX6_seen 44 = .ok (.aload_n 0, 1) := by decide +kernel
theorem dX6_seen_45 : decode cX6_seen 45 = .ok (.getfield 10, 3) := by decide +kernel
theorem dX6_seen_48 : decode cX6_seen 48 = .ok (.getfield 218, 3) := by decide +kernel
theorem dX6_seen_51 : decode cX6_seen 51 = .ok (.invokevirtual 222, 3) := by decide +kernel
theorem dX6_seen_54 : decode cX6_seen 54 = .ok (.ifCond .eq 8, 3) := by decide +kernel
theorem dX6_seen_57 : decode cX6_seen 57 = .ok (.aload_n 0, 1) := by decide +kernel
theorem dX6_seen_58 : decode cX6_seen 58 = .ok (.invokevirtual 96, 3) := by decide +kernel
theorem dX6_seen_61 : decode cX6_seen 61 = .ok (.ireturn, 1) := by decide +kernel
theorem dX6_seen_62 : decode cX6_seen 62 = .ok (.aload_n 0, 1) := by decide +kernel
theorem dX6_seen_63 : decode cX6_seen 63 = .ok (.getfield 10, 3) := by decide +kernel
theorem dX6_seen_66 : decode cX6_seen 66 = .ok (.getfield 218, 3) := by decide +kernel
theorem dX6_seen_69 : decode cX6_seen 69 = .ok (.iload_n 1, 1) := by decide +kernel
theorem dX6_seen_70 : decode cX6_seen 70 = .ok (.iload_n 2, 1) := by decide +kernel
theorem dX6_seen_71 : decode cX6_seen 71 = .ok (.iload_n 3, 1) := by decide +kernel
theorem dX6_seen_72 : decode cX6_seen 72 = .ok (.iload 4, 2) := by decide +kernel
theorem dX6_seen_74 : decode cX6_seen 74 = .ok (.iconst 0, 1) := by decide +kernel
theorem dX6_seen_75 : decode cX6_seen 75 = .ok (.invokevirtual 228, 3) := by decide +kernel
theorem dX6_seen_78 : decode cX6_seen 78 = .ok (.ireturn, 1) := by decide +kernel
theorem dX6_heavy_0 : decode cX6_heavy 0 = .ok (.aload_n 0, 1) := by decide +kernel
theorem dX6_heavy_1 : decode cX6_heavy 1 = .ok (.iload_n 1, 1) := by decide +kernel
theorem dX6_heavy_2 : decode cX6_heavy 2 = .ok (.invokevirtual 138, 3) := by decide +kernel
theorem dX6_heavy_5 : decode cX6_heavy 5 = .ok (.ifCond .ne 12, 3) := by decide +kernel
theorem dX6_heavy_8 : decode cX6_heavy 8 = .ok (.iload_n 2, 1) := by decide +kernel
theorem dX6_heavy_9 : decode cX6_heavy 9 = .ok (.iconst 0, 1) := by decide +kernel
theorem dX6_heavy_10 : decode cX6_heavy 10 = .ok (.iconst 2, 1) := by decide +kernel
theorem dX6_heavy_11 : decode cX6_heavy 11 = .ok (.invokestatic 81, 3) := by decide +kernel
theorem dX6_heavy_14 : decode cX6_heavy 14 = .ok (.ifCond .eq 11, 3) := by decide +kernel
theorem dX6_heavy_17 : decode cX6_heavy 17 = .ok (.aload_n 0, 1) := by decide +kernel
theorem dX6_heavy_18 : decode cX6_heavy 18 = .ok (.sipush (-1002), 3) := by decide +kernel
theorem dX6_heavy_21 : decode cX6_heavy 21 = .ok (.invokevirtual 85, 3) := by decide +kernel
theorem dX6_heavy_24 : decode cX6_heavy 24 = .ok (.ireturn, 1) := by decide +kernel
theorem dX6_heavy_25 : decode cX6_heavy 25 = .ok (.aload_n 0, 1) := by decide +kernel
theorem dX6_heavy_26 : decode cX6_heavy 26 = .ok (.iload_n 1, 1) := by decide +kernel
theorem dX6_heavy_27 : decode cX6_heavy 27 = .ok (.invokevirtual 230, 3) := by decide +kernel
theorem dX6_heavy_30 : decode cX6_heavy 30 = .ok (.istore_n 3, 1) := by decide +kernel
theorem dX6_heavy_31 : decode cX6_heavy 31 = .ok (.iload_n 2, 1) := by decide +kernel
theorem dX6_heavy_32 : decode cX6_heavy 32 = .ok (.ifCond .ne 8, 3) := by decide +kernel
theorem dX6_heavy_35 : decode cX6_heavy 35 = .ok (.iload_n 3, 1) := by decide +kernel
theorem dX6_heavy_36 : decode cX6_heavy 36 = .ok (.invokestatic 233, 3) := by decide +kernel
theorem dX6_heavy_39 : decode cX6_heavy 39 = .ok (.ireturn, 1) := by decide +kernel
theorem dX6_heavy_40 : decode cX6_heavy 40 = .ok (.iload_n 3, 1) := by decide +kernel
theorem dX6_heavy_41 : decode cX6_heavy 41 = .ok (.ifCond .ne 7, 3) := by decide +kernel
theorem dX6_heavy_44 : decode cX6_heavy 44 = .ok (.sipush (-1001), 3) := by decide +kernel
theorem dX6_heavy_47 : decode cX6_heavy 47 = .ok (.ireturn, 1) := by decide +kernel
theorem dX6_heavy_48 : decode cX6_heavy 48 = .ok (.iload_n 2, 1) := by decide +kernel
theorem dX6_heavy_49 : decode cX6_heavy 49 = .ok (.iconst 1, 1) := by decide +kernel
theorem dX6_heavy_50 : decode cX6_heavy 50 = .ok (.if_icmp .ne 10, 3) := by decide +kernel
theorem dX6_heavy_53 : decode cX6_heavy 53 = .ok (.iload_n 3, 1) := by decide +kernel
theorem dX6_heavy_54 : decode cX6_heavy 54 = .ok (.invokestatic 238, 3) := by decide +kernel
theorem dX6_heavy_57 : decode cX6_heavy 57 = .ok (.goto 7, 3) := by decide +kernel
theorem dX6_heavy_60 : decode cX6_heavy 60 = .ok (.iload_n 3, 1) := by decide +kernel
theorem dX6_heavy_61 : decode cX6_heavy 61 = .ok (.invokestatic 241, 3) := by decide +kernel
theorem dX6_heavy_64 : decode cX6_heavy 64 = .ok (.ireturn, 1) := by decide +kernel
theorem dX6_tell_0 : decode cX6_tell 0 = .ok (.aload_n 0, 1) := by decide +kernel
theorem dX6_tell_1 : decode cX6_tell 1 = .ok (.iload_n 1, 1) := by decide +kernel
theorem dX6_tell_2 : decode cX6_tell 2 = .ok (.invokevirtual 138, 3) := by decide +kernel
theorem dX6_tell_5 : decode cX6_tell 5 = .ok (.ifCond .eq 11, 3) := by decide +kernel
theorem dX6_tell_8 : decode cX6_tell 8 = .ok (.aload_n 0, 1) := by decide +kernel
theorem dX6_tell_9 : decode cX6_tell 9 = .ok (.sipush (-1002), 3) := by decide +kernel
theorem dX6_tell_12 : decode cX6_tell 12 = .ok (.invokevirtual 85, 3) := by decide +kernel
theorem dX6_tell_15 : decode cX6_tell 15 = .ok (.ireturn, 1) := by decide +kernel
theorem dX6_tell_16 : decode cX6_tell 16 = .ok (.aload_n 0, 1) := by decide +kernel
theorem dX6_tell_17 : decode cX6_tell 17 = .ok (.iload_n 1, 1) := by decide +kernel
theorem dX6_tell_18 : decode cX6_tell 18 = .ok (.invokevirtual 230, 3) := by decide +kernel
theorem dX6_tell_21 : decode cX6_tell 21 = .ok (.istore_n 2, 1) := by decide +kernel
theorem dX6_tell_22 : decode cX6_tell 22 = .ok (.iload_n 2, 1) := by decide +kernel
theorem dX6_tell_23 : decode cX6_tell 23 = .ok (.ifCond .ne 7, 3) := by decide +kernel
theorem dX6_tell_26 : decode cX6_tell 26 = .ok (.sipush (-1001), 3) := by decide +kernel
theorem dX6_tell_29 : decode cX6_tell 29 = .ok (.ireturn, 1) := by decide +kernel
theorem dX6_tell_30 : decode cX6_tell 30 = .ok (.iconst 1, 1) := by decide +kernel
theorem dX6_tell_31 : decode cX6_tell 31 = .ok (.istore_n 3, 1) := by decide +kernel
theorem dX6_tell_32 : decode cX6_tell 32 = .ok (.aload_n 0, 1) := by decide +kernel
theorem dX6_tell_33 : decode cX6_tell 33 = .ok (.iload_n 1, 1) := by decide +kernel
theorem dX6_tell_34 : decode cX6_tell 34 = .ok (.iload_n 2, 1) := by decide +kernel
theorem dX6_tell_35 : decode cX6_tell 35 = .ok (.iconst 1, 1) := by decide +kernel
theorem dX6_tell_36 : decode cX6_tell 36 = .ok (.invokevirtual 244, 3) := by decide +kernel
theorem dX6_tell_39 : decode cX6_tell 39 = .ok (.istore 4, 2) := by decide +kernel
theorem dX6_tell_41 : decode cX6_tell 41 = .ok (.iconst 2, 1) := by decide +kernel
theorem dX6_tell_42 : decode cX6_tell 42 = .ok (.istore 5, 2) := by decide +kernel
theorem dX6_tell_44 : decode cX6_tell 44 = .ok (.iload 5, 2) := by decide +kernel
theorem dX6_tell_46 : decode cX6_tell 46 = .ok (.bipush 20, 2) := by decide +kernel
theorem dX6_tell_48 : decode cX6_tell 48 = .ok (.if_icmp .gt 33, 3) := by decide +kernel
theorem dX6_tell_51 : decode cX6_tell 51 = .ok (.aload_n 0, 1) := by decide +kernel
theorem dX6_tell_52 : decode cX6_tell 52 = .ok (.iload_n 1, 1) := by decide +kernel
theorem dX6_tell_53 : decode cX6_tell 53 = .ok (.iload_n 2, 1) := by decide +kernel
theorem dX6_tell_54 : decode cX6_tell 54 = .ok (.iload 5, 2) := by decide +kernel
theorem dX6_tell_56 : decode cX6_tell 56 = .ok (.invokevirtual 244, 3) := by decide +kernel
theorem dX6_tell_59 : decode cX6_tell 59 = .ok (.istore 6, 2) := by decide +kernel
theorem dX6_tell_61 : decode cX6_tell 61 = .ok (.iload 6, 2) := by decide +kernel
theorem dX6_tell_63 : decode cX6_tell 63 = .ok (.iload 4, 2) := by decide +kernel
theorem dX6_tell_65 : decode cX6_tell 65 = .ok (.if_icmp .ge 10, 3) := by decide +kernel
theorem dX6_tell_68 : decode cX6_tell 68 = .ok (.iload 5, 2) := by decide +kernel
theorem dX6_tell_70 : decode cX6_tell 70 = .ok (.istore_n 3, 1) := by decide +kernel
theorem dX6_tell_71 : decode cX6_tell 71 = .ok (.iload 6, 2) := by decide +kernel
theorem dX6_tell_73 : decode cX6_tell 73 = .ok (.istore 4, 2) := by decide +kernel
theorem dX6_tell_75 : decode cX6_tell 75 = .ok (.iinc 5 1, 3) := by decide +kernel
theorem dX6_tell_78 : decode cX6_tell 78 = .ok (.goto (-34), 3) := by decide +kernel
theorem dX6_tell_81 : decode cX6_tell 81 = .ok (.iload_n 3, 1) := by decide +kernel
theorem dX6_tell_82 : decode cX6_tell 82 = .ok (.ireturn, 1) := by decide +kernel
theorem dX6_note_0 : decode cX6_note 0 = .ok (.aload_n 0, 1) := by decide +kernel
theorem dX6_note_1 : decode cX6_note 1 = .ok (.iload_n 1, 1) := by decide +kernel
theorem dX6_note_2 : decode cX6_note 2 = .ok (.invokevirtual 138, 3) := by decide +kernel
theorem dX6_note_5 : decode cX6_note 5 = .ok (.ifCond .ne 45, 3) := by decide +kernel
theorem dX6_note_8 : decode cX6_note 8 = .ok (.iload_n 2, 1) := by decide +kernel
theorem dX6_note_9 : decode cX6_note 9 = .ok (.iconst 1, 1) := by decide +kernel
theorem dX6_note_10 : decode cX6_note 10 = .ok (.bipush 20, 2) := by decide +kernel
theorem dX6_note_12 : decode cX6_note 12 = .ok (.invokestatic 81, 3) := by decide +kernel
theorem dX6_note_15 : decode cX6_note 15 = .ok (.ifCond .ne 35, 3) := by decide +kernel
theorem dX6_note_18 : decode cX6_note 18 = .ok (.iload_n 3, 1) := by decide +kernel
theorem dX6_note_19 : decode cX6_note 19 = .ok (.iconst 1, 1) := by decide +kernel
theorem dX6_note_20 : decode cX6_note 20 = .ok (.bipush 9, 2) := by decide +kernel
theorem dX6_note_22 : decode cX6_note 22 = .ok (.invokestatic 81, 3) := by decide +kernel
theorem dX6_note_25 : decode cX6_note 25 = .ok (.ifCond .ne 25, 3) := by decide +kernel
theorem dX6_note_28 : decode cX6_note 28 = .ok (.iload 4, 2) := by decide +kernel
theorem dX6_note_30 : decode cX6_note 30 = .ok (.iconst 0, 1) := by decide +kernel
theorem dX6_note_31 : decode cX6_note 31 = .ok (.bipush 99, 2) := by decide +kernel
theorem dX6_note_33 : decode cX6_note 33 = .ok (.invokestatic 81, 3) := by decide +kernel
theorem dX6_note_36 : decode cX6_note 36 = .ok (.ifCond .ne 14, 3) := by decide +kernel
theorem dX6_note_39 : decode cX6_note 39 = .ok (.iload 5, 2) := by decide +kernel
theorem dX6_note_41 : decode cX6_note 41 = .ok (.iconst 0, 1) := by decide +kernel
theorem dX6_note_42 : decode cX6_note 42 = .ok (.bipush 60, 2) := by decide +kernel
theorem dX6_note_44 : decode cX6_note 44 = .ok (.invokestatic 81, 3) := by decide +kernel
theorem dX6_note_47 : decode cX6_note 47 = .ok (.ifCond .eq 11, 3) := by decide +kernel
theorem dX6_note_50 : decode cX6_note 50 = .ok (.aload_n 0, 1) := by decide +kernel
theorem dX6_note_51 : decode cX6_note 51 = .ok (.sipush (-1002), 3) := by decide +kernel
theorem dX6_note_54 : decode cX6_note 54 = .ok (.invokevirtual 85, 3) := by decide +kernel
theorem dX6_note_57 : decode cX6_note 57 = .ok (.ireturn, 1) := by decide +kernel
theorem dX6_note_58 : decode cX6_note 58 = .ok (.aload_n 0, 1) := by decide +kernel
theorem dX6_note_59 : decode cX6_note 59 = .ok (.getfield 10, 3) := by decide +kernel
theorem dX6_note_62 : decode cX6_note 62 = .ok (.getfield 247, 3) := by decide +kernel
theorem dX6_note_65 : decode cX6_note 65 = .ok (.invokevirtual 222, 3) := by decide +kernel
theorem dX6_note_68 : decode cX6_note 68 = .ok (.ifCond .eq 8, 3) := by decide +kernel
theorem dX6_note_71 : decode cX6_note 71 = .ok (.aload_n 0, 1) := by decide +kernel
theorem dX6_note_72 : decode cX6_note 72 = .ok (.invokevirtual 96, 3) := by decide +kernel
theorem dX6_note_75 : decode cX6_note 75 = .ok (.ireturn, 1) := by decide +kernel
theorem dX6_note_76 : decode cX6_note 76 = .ok (.aload_n 0, 1) := by decide +kernel
theorem dX6_note_77 : decode cX6_note 77 = .ok (.getfield 10, 3) := by decide +kernel
theorem dX6_note_80 : decode cX6_note 80 = .ok (.getfield 247, 3) := by decide +kernel
theorem dX6_note_83 : decode cX6_note 83 = .ok (.iload_n 1, 1) := by decide +kernel
theorem dX6_note_84 : decode cX6_note 84 = .ok (.iload_n 2, 1) := by decide +kernel
theorem dX6_note_85 : decode cX6_note 85 = .ok (.iload_n 3, 1) := by decide +kernel
theorem dX6_note_86 : decode cX6_note 86 = .ok (.iload 4, 2) := by decide +kernel
theorem dX6_note_88 : decode cX6_note 88 = .ok (.iload 5, 2) := by decide +kernel
theorem dX6_note_90 : decode cX6_note 90 = .ok (.invokevirtual 228, 3) := by decide +kernel
theorem dX6_note_93 : decode cX6_note 93 = .ok (.ireturn, 1) := by decide +kernel
theorem dX6_mark_0 : decode cX6_mark 0 = .ok (.aload_n 0, 1) := by decide +kernel
theorem dX6_mark_1 : decode cX6_mark 1 = .ok (.iload_n 1, 1) := by decide +kernel
theorem dX6_mark_2 : decode cX6_mark 2 = .ok (.invokevirtual 138, 3) := by decide +kernel
theorem dX6_mark_5 : decode cX6_mark 5 = .ok (.ifCond .ne 28, 3) := by decide +kernel
theorem dX6_mark_8 : decode cX6_mark 8 = .ok (.iload_n 2, 1) := by decide +kernel
theorem dX6_mark_9 : decode cX6_mark 9 = .ok (.invokestatic 185, 3) := by decide +kernel
theorem dX6_mark_12 : decode cX6_mark 12 = .ok (.ifCond .ne 21, 3) := by decide +kernel
theorem dX6_mark_15 : decode cX6_mark 15 = .ok (.iload_n 3, 1) := by decide +kernel
theorem dX6_mark_16 : decode cX6_mark 16 = .ok (.iconst 0, 1) := by decide +kernel
theorem dX6_mark_17 : decode cX6_mark 17 = .ok (.bipush 99, 2) := by decide +kernel
theorem dX6_mark_19 : decode cX6_mark 19 = .ok (.invokestatic 81, 3) := by decide +kernel
theorem dX6_mark_22 : decode cX6_mark 22 = .ok (.ifCond .ne 11, 3) := by decide +kernel
theorem dX6_mark_25 : decode cX6_mark 25 = .ok (.iload 4, 2) := by decide +kernel
theorem dX6_mark_27 : decode cX6_mark 27 = .ok (.invokestatic 185, 3) := by decide +kernel
theorem dX6_mark_30 : decode cX6_mark 30 = .ok (.ifCond .eq 11, 3) := by decide +kernel
theorem dX6_mark_33 : decode cX6_mark 33 = .ok (.aload_n 0, 1) := by decide +kernel
theorem dX6_mark_34 : decode cX6_mark 34 = .ok (.sipush (-1002), 3) := by decide +kernel
theorem dX6_mark_37 : decode cX6_mark 37 = .ok (.invokevirtual 85, 3) := by decide +kernel
theorem dX6_mark_40 : decode cX6_mark 40 = .ok (.ireturn, 1) := by decide +kernel
theorem dX6_mark_41 : decode cX6_mark 41 = .ok (.aload_n 0, 1) := by decide +kernel
theorem dX6_mark_42 : decode cX6_mark 42 = .ok (.getfield 10, 3) := by decide +kernel
theorem dX6_mark_45 : decode cX6_mark 45 = .ok (.getfield 250, 3) := by decide +kernel
theorem dX6_mark_48 : decode cX6_mark 48 = .ok (.invokevirtual 222, 3) := by decide +kernel
theorem dX6_mark_51 : decode cX6_mark 51 = .ok (.ifCond .eq 8, 3) := by decide +kernel
theorem dX6_mark_54 : decode cX6_mark 54 = .ok (.aload_n 0, 1) := by decide +kernel
theorem dX6_mark_55 : decode cX6_mark 55 = .ok (.invokevirtual 96, 3) := by decide +kernel
theorem dX6_mark_58 : decode cX6_mark 58 = .ok (.ireturn, 1) := by decide +kernel
theorem dX6_mark_59 : decode cX6_mark 59 = .ok (.aload_n 0, 1) := by decide +kernel
theorem dX6_mark_60 : decode cX6_mark 60 = .ok (.getfield 10, 3) := by decide +kernel
theorem dX6_mark_63 : decode cX6_mark 63 = .ok (.getfield 250, 3) := by decide +kernel
theorem dX6_mark_66 : decode cX6_mark 66 = .ok (.iload_n 1, 1) := by decide +kernel
theorem dX6_mark_67 : decode cX6_mark 67 = .ok (.iload_n 2, 1) := by decide +kernel
theorem dX6_mark_68 : decode cX6_mark 68 = .ok (.iload_n 3, 1) := by decide +kernel
theorem dX6_mark_69 : decode cX6_mark 69 = .ok (.iload 4, 2) := by decide +kernel
theorem dX6_mark_71 : decode cX6_mark 71 = .ok (.iconst 0, 1) := by decide +kernel
theorem dX6_mark_72 : decode cX6_mark 72 = .ok (.invokevirtual 228, 3) := by decide +kernel
theorem dX6_mark_75 : decode cX6_mark 75 = .ok (.ireturn, 1) := by decide +kernel
theorem dX6_forget_0 : decode cX6_forget 0 = .ok (.iload_n 1, 1) := by decide +kernel
theorem dX6_forget_1 : decode cX6_forget 1 = .ok (.tableswitch 60 0 2 #[27, 38, 49], 27) := by decide +kernel
theorem dX6_forget_28 : decode cX6_forget 28 = .ok (.aload_n 0, 1) := by decide +kernel
theorem dX6_forget_29 : decode cX6_forget 29 = .ok (.getfield 10, 3) := by decide +kernel
theorem dX6_forget_32 : decode cX6_forget 32 = .ok (.getfield 218, 3) := by decide +kernel
theorem dX6_forget_35 : decode cX6_forget 35 = .ok (.invokevirtual 253, 3) := by decide +kernel
theorem dX6_forget_38 : decode cX6_forget 38 = .ok (.ireturn, 1) := by decide +kernel
theorem dX6_forget_39 : decode cX6_forget 39 = .ok (.aload_n 0, 1) := by decide +kernel
theorem dX6_forget_40 : decode cX6_forget 40 = .ok (.getfield 10, 3) := by decide +kernel
theorem dX6_forget_43 : decode cX6_forget 43 = .ok (.getfield 247, 3) := by decide +kernel
theorem dX6_forget_46 : decode cX6_forget 46 = .ok (.invokevirtual 253, 3) := by decide +kernel
theorem dX6_forget_49 : decode cX6_forget 49 = .ok (.ireturn, 1) := by decide +kernel
theorem dX6_forget_50 : decode cX6_forget 50 = .ok (.aload_n 0, 1) := by decide +kernel
theorem dX6_forget_51 : decode cX6_forget 51 = .ok (.getfield 10, 3) := by decide +kernel
theorem dX6_forget_54 : decode cX6_forget 54 = .ok (.getfield 250, 3) := by decide +kernel
theorem dX6_forget_57 : decode cX6_forget 57 = .ok (.invokevirtual 253, 3) := by decide +kernel
theorem dX6_forget_60 : decode cX6_forget 60 = .ok (.ireturn, 1) := by decide +kernel
theorem dX6_forget_61 : decode cX6_forget 61 = .ok (.aload_n 0, 1) := by decide +kernel
theorem dX6_forget_62 : decode cX6_forget 62 = .ok (.sipush (-1002), 3) := by decide +kernel
theorem dX6_forget_65 : decode cX6_forget 65 = .ok (.invokevirtual 85, 3) := by decide +kernel
theorem dX6_forget_68 : decode cX6_forget 68 = .ok (.ireturn, 1) := by decide +kernel
theorem dX6_is_0 : decode cX6_is 0 = .ok (.aload_n 0, 1) := by decide +kernel
theorem dX6_is_1 : decode cX6_is 1 = .ok (.iload_n 1, 1) := by decide +kernel
theorem dX6_is_2 : decode cX6_is 2 = .ok (.invokevirtual 138, 3) := by decide +kernel
theorem dX6_is_5 : decode cX6_is 5 = .ok (.ifCond .eq 11, 3) := by decide +kernel
theorem dX6_is_8 : decode cX6_is 8 = .ok (.aload_n 0, 1) := by decide +kernel
theorem dX6_is_9 : decode cX6_is 9 = .ok (.sipush (-1002), 3) := by decide +kernel
theorem dX6_is_12 : decode cX6_is 12 = .ok (.invokevirtual 85, 3) := by decide +kernel
theorem dX6_is_15 : decode cX6_is 15 = .ok (.ireturn, 1) := by decide +kernel
theorem dX6_is_16 : decode cX6_is 16 = .ok (.aload_n 0, 1) := by decide +kernel
theorem dX6_is_17 : decode cX6_is 17 = .ok (.iload_n 1, 1) := by decide +kernel
theorem dX6_is_18 : decode cX6_is 18 = .ok (.invokevirtual 256, 3) := by decide +kernel
theorem dX6_is_21 : decode cX6_is 21 = .ok (.ireturn, 1) := by decide +kernel
theorem dX6_look_0 : decode cX6_look 0 = .ok (.aload_n 0, 1) := by decide +kernel
theorem dX6_look_1 : decode cX6_look 1 = .ok (.iload_n 1, 1) := by decide +kernel
theorem dX6_look_2 : decode cX6_look 2 = .ok (.invokevirtual 138, 3) := by decide +kernel
theorem dX6_look_5 : decode cX6_look 5 = .ok (.ifCond .eq 11, 3) := by decide +kernel
theorem dX6_look_8 : decode cX6_look 8 = .ok (.aload_n 0, 1) := by decide +kernel
theorem dX6_look_9 : decode cX6_look 9 = .ok (.sipush (-1002), 3) := by decide +kernel
theorem dX6_look_12 : decode cX6_look 12 = .ok (.invokevirtual 85, 3) := by decide +kernel
theorem dX6_look_15 : decode cX6_look 15 = .ok (.ireturn, 1) := by decide +kernel
theorem dX6_look_16 : decode cX6_look 16 = .ok (.aload_n 0, 1) := by decide +kernel
theorem dX6_look_17 : decode cX6_look 17 = .ok (.iload_n 1, 1) := by decide +kernel
theorem dX6_look_18 : decode cX6_look 18 = .ok (.invokevirtual 256, 3) := by decide +kernel
theorem dX6_look_21 : decode cX6_look 21 = .ok (.istore_n 2, 1) := by decide +kernel
theorem dX6_look_22 : decode cX6_look 22 = .ok (.iload_n 2, 1) := by decide +kernel
theorem dX6_look_23 : decode cX6_look 23 = .ok (.ifCond .ne 7, 3) := by decide +kernel
theorem dX6_look_26 : decode cX6_look 26 = .ok (.sipush (-1001), 3) := by decide +kernel
theorem dX6_look_29 : decode cX6_look 29 = .ok (.ireturn, 1) := by decide +kernel
theorem dX6_look_30 : decode cX6_look 30 = .ok (.sipush (-1001), 3) := by decide +kernel
theorem dX6_look_33 : decode cX6_look 33 = .ok (.istore_n 3, 1) := by decide +kernel
theorem dX6_look_34 : decode cX6_look 34 = .ok (.bipush 7, 2) := by decide +kernel
theorem dX6_look_36 : decode cX6_look 36 = .ok (.istore 4, 2) := by decide +kernel
theorem dX6_look_38 : decode cX6_look 38 = .ok (.iconst 1, 1) := by decide +kernel
theorem dX6_look_39 : decode cX6_look 39 = .ok (.istore 5, 2) := by decide +kernel
theorem dX6_look_41 : decode cX6_look 41 = .ok (.iload 5, 2) := by decide +kernel
theorem dX6_look_43 : decode cX6_look 43 = .ok (.bipush 9, 2) := by decide +kernel
theorem dX6_look_45 : decode cX6_look 45 = .ok (.if_icmp .gt 64, 3) := by decide +kernel
theorem dX6_look_48 : decode cX6_look 48 = .ok (.iconst 1, 1) := by decide +kernel
theorem dX6_look_49 : decode cX6_look 49 = .ok (.istore 6, 2) := by decide +kernel
theorem dX6_look_51 : decode cX6_look 51 = .ok (.iload 6, 2) := by decide +kernel
theorem dX6_look_53 : decode cX6_look 53 = .ok (.bipush 20, 2) := by decide +kernel
theorem dX6_look_55 : decode cX6_look 55 = .ok (.if_icmp .gt 48, 3) := by decide +kernel
theorem dX6_look_58 : decode cX6_look 58 = .ok (.aload_n 0, 1) := by decide +kernel
theorem dX6_look_59 : decode cX6_look 59 = .ok (.iload_n 2, 1) := by decide +kernel
theorem dX6_look_60 : decode cX6_look 60 = .ok (.iload 6, 2) := by decide +kernel
theorem dX6_look_62 : decode cX6_look 62 = .ok (.iload 5, 2) := by decide +kernel
theorem dX6_look_64 : decode cX6_look 64 = .ok (.aload_n 0, 1) := by decide +kernel
theorem dX6_look_65 : decode cX6_look 65 = .ok (.getfield 10, 3) := by decide +kernel
theorem dX6_look_68 : decode cX6_look 68 = .ok (.iload_n 1, 1) := by decide +kernel
theorem dX6_look_69 : decode cX6_look 69 = .ok (.invokevirtual 142, 3) := by decide +kernel
theorem dX6_look_72 : decode cX6_look 72 = .ok (.invokevirtual 259, 3) := by decide +kernel
theorem dX6_look_75 : decode cX6_look 75 = .ok (.istore 7, 2) := by decide +kernel
theorem dX6_look_77 : decode cX6_look 77 = .ok (.iload 7, 2) := by decide +kernel
theorem dX6_look_79 : decode cX6_look 79 = .ok (.iload 4, 2) := by decide +kernel
theorem dX6_look_81 : decode cX6_look 81 = .ok (.if_icmp .ge 16, 3) := by decide +kernel
theorem dX6_look_84 : decode cX6_look 84 = .ok (.bipush 100, 2) := by decide +kernel
theorem dX6_look_86 : decode cX6_look 86 = .ok (.iload 5, 2) := by decide +kernel
theorem dX6_look_88 : decode cX6_look 88 = .ok (.imul, 1) := by decide +kernel
theorem dX6_look_89 : decode cX6_look 89 = .ok (.iload 6, 2) := by decide +kernel
theorem dX6_look_91 : decode cX6_look 91 = .ok (.iadd, 1) := by decide +kernel
theorem dX6_look_92 : decode cX6_look 92 = .ok (.istore_n 3, 1) := by decide +kernel
theorem dX6_look_93 : decode cX6_look 93 = .ok (.iload 7, 2) := by decide +kernel
theorem dX6_look_95 : decode cX6_look 95 = .ok (.istore 4, 2) := by decide +kernel
theorem dX6_look_97 : decode cX6_look 97 = .ok (.iinc 6 1, 3) := by decide +kernel
theorem dX6_look_100 : decode cX6_look 100 = .ok (.goto (-49), 3) := by decide +kernel
theorem dX6_look_103 : decode cX6_look 103 = .ok (.iinc 5 1, 3) := by decide +kernel
theorem dX6_look_106 : decode cX6_look 106 = .ok (.goto (-65), 3) := by decide +kernel
theorem dX6_look_109 : decode cX6_look 109 = .ok (.iload_n 3, 1) := by decide +kernel
theorem dX6_look_110 : decode cX6_look 110 = .ok (.ireturn, 1) := by decide +kernel
theorem dX6_kinds_0 : decode cX6_kinds 0 = .ok (.aload_n 0, 1) := by decide +kernel
theorem dX6_kinds_1 : decode cX6_kinds 1 = .ok (.iload_n 1, 1) := by decide +kernel
theorem dX6_kinds_2 : decode cX6_kinds 2 = .ok (.invokevirtual 138, 3) := by decide +kernel
theorem dX6_kinds_5 : decode cX6_kinds 5 = .ok (.ifCond .eq 11, 3) := by decide +kernel
theorem dX6_kinds_8 : decode cX6_kinds 8 = .ok (.aload_n 0, 1) := by decide +kernel
theorem dX6_kinds_9 : decode cX6_kinds 9 = .ok (.sipush (-1002), 3) := by decide +kernel
theorem dX6_kinds_12 : decode cX6_kinds 12 = .ok (.invokevirtual 85, 3) := by decide +kernel
theorem dX6_kinds_15 : decode cX6_kinds 15 = .ok (.ireturn, 1) := by decide +kernel
theorem dX6_kinds_16 : decode cX6_kinds 16 = .ok (.aload_n 0, 1) := by decide +kernel
theorem dX6_kinds_17 : decode cX6_kinds 17 = .ok (.iload_n 1, 1) := by decide +kernel
theorem dX6_kinds_18 : decode cX6_kinds 18 = .ok (.invokevirtual 263, 3) := by decide +kernel
theorem dX6_kinds_21 : decode cX6_kinds 21 = .ok (.ireturn, 1) := by decide +kernel
theorem dX6_ask_0 : decode cX6_ask 0 = .ok (.aload_n 0, 1) := by decide +kernel
theorem dX6_ask_1 : decode cX6_ask 1 = .ok (.iload_n 1, 1) := by decide +kernel
theorem dX6_ask_2 : decode cX6_ask 2 = .ok (.invokevirtual 138, 3) := by decide +kernel
theorem dX6_ask_5 : decode cX6_ask 5 = .ok (.ifCond .eq 11, 3) := by decide +kernel
theorem dX6_ask_8 : decode cX6_ask 8 = .ok (.aload_n 0, 1) := by decide +kernel
theorem dX6_ask_9 : decode cX6_ask 9 = .ok (.sipush (-1002), 3) := by decide +kernel
theorem dX6_ask_12 : decode cX6_ask 12 = .ok (.invokevirtual 85, 3) := by decide +kernel
theorem dX6_ask_15 : decode cX6_ask 15 = .ok (.ireturn, 1) := by decide +kernel
theorem dX6_ask_16 : decode cX6_ask 16 = .ok (.aload_n 0, 1) := by decide +kernel
theorem dX6_ask_17 : decode cX6_ask 17 = .ok (.iload_n 1, 1) := by decide +kernel
theorem dX6_ask_18 : decode cX6_ask 18 = .ok (.invokevirtual 263, 3) := by decide +kernel
theorem dX6_ask_21 : decode cX6_ask 21 = .ok (.istore_n 2, 1) := by decide +kernel
theorem dX6_ask_22 : decode cX6_ask 22 = .ok (.iload_n 2, 1) := by decide +kernel
theorem dX6_ask_23 : decode cX6_ask 23 = .ok (.ifCond .ne 7, 3) := by decide +kernel
theorem dX6_ask_26 : decode cX6_ask 26 = .ok (.sipush (-1001), 3) := by decide +kernel
theorem dX6_ask_29 : decode cX6_ask 29 = .ok (.ireturn, 1) := by decide +kernel
theorem dX6_ask_30 : decode cX6_ask 30 = .ok (.sipush (-1001), 3) := by decide +kernel
theorem dX6_ask_33 : decode cX6_ask 33 = .ok (.istore_n 3, 1) := by decide +kernel
theorem dX6_ask_34 : decode cX6_ask 34 = .ok (.bipush 7, 2) := by decide +kernel
theorem dX6_ask_36 : decode cX6_ask 36 = .ok (.istore 4, 2) := by decide +kernel
theorem dX6_ask_38 : decode cX6_ask 38 = .ok (.iconst 0, 1) := by decide +kernel
theorem dX6_ask_39 : decode cX6_ask 39 = .ok (.istore 5, 2) := by decide +kernel
theorem dX6_ask_41 : decode cX6_ask 41 = .ok (.iload 5, 2) := by decide +kernel
theorem dX6_ask_43 : decode cX6_ask 43 = .ok (.bipush 20, 2) := by decide +kernel
theorem dX6_ask_45 : decode cX6_ask 45 = .ok (.if_icmp .gt 55, 3) := by decide +kernel
theorem dX6_ask_48 : decode cX6_ask 48 = .ok (.iconst 0, 1) := by decide +kernel
theorem dX6_ask_49 : decode cX6_ask 49 = .ok (.istore 6, 2) := by decide +kernel
theorem dX6_ask_51 : decode cX6_ask 51 = .ok (.iload 6, 2) := by decide +kernel
theorem dX6_ask_53 : decode cX6_ask 53 = .ok (.iconst 1, 1) := by decide +kernel
theorem dX6_ask_54 : decode cX6_ask 54 = .ok (.if_icmp .gt 40, 3) := by decide +kernel
theorem dX6_ask_57 : decode cX6_ask 57 = .ok (.aload_n 0, 1) := by decide +kernel
theorem dX6_ask_58 : decode cX6_ask 58 = .ok (.iload_n 2, 1) := by decide +kernel
theorem dX6_ask_59 : decode cX6_ask 59 = .ok (.iload 5, 2) := by decide +kernel
theorem dX6_ask_61 : decode cX6_ask 61 = .ok (.iload 6, 2) := by decide +kernel
theorem dX6_ask_63 : decode cX6_ask 63 = .ok (.invokevirtual 266, 3) := by decide +kernel
theorem dX6_ask_66 : decode cX6_ask 66 = .ok (.istore 7, 2) := by decide +kernel
theorem dX6_ask_68 : decode cX6_ask 68 = .ok (.iload 7, 2) := by decide +kernel
theorem dX6_ask_70 : decode cX6_ask 70 = .ok (.iload 4, 2) := by decide +kernel
theorem dX6_ask_72 : decode cX6_ask 72 = .ok (.if_icmp .ge 16, 3) := by decide +kernel
theorem dX6_ask_75 : decode cX6_ask 75 = .ok (.bipush 10, 2) := by decide +kernel
theorem dX6_ask_77 : decode cX6_ask 77 = .ok (.iload 5, 2) := by decide +kernel
theorem dX6_ask_79 : decode cX6_ask 79 = .ok (.imul, 1) := by decide +kernel
theorem dX6_ask_80 : decode cX6_ask 80 = .ok (.iload 6, 2) := by decide +kernel
theorem dX6_ask_82 : decode cX6_ask 82 = .ok (.iadd, 1) := by decide +kernel
theorem dX6_ask_83 : decode cX6_ask 83 = .ok (.istore_n 3, 1) := by decide +kernel
theorem dX6_ask_84 : decode cX6_ask 84 = .ok (.iload 7, 2) := by decide +kernel
theorem dX6_ask_86 : decode cX6_ask 86 = .ok (.istore 4, 2) := by decide +kernel
theorem dX6_ask_88 : decode cX6_ask 88 = .ok (.iinc 6 1, 3) := by decide +kernel
theorem dX6_ask_91 : decode cX6_ask 91 = .ok (.goto (-40), 3) := by decide +kernel
theorem dX6_ask_94 : decode cX6_ask 94 = .ok (.iinc 5 1, 3) := by decide +kernel
theorem dX6_ask_97 : decode cX6_ask 97 = .ok (.goto (-56), 3) := by decide +kernel
theorem dX6_ask_100 : decode cX6_ask 100 = .ok (.iload_n 3, 1) := by decide +kernel
theorem dX6_ask_101 : decode cX6_ask 101 = .ok (.ireturn, 1) := by decide +kernel
theorem dX6_hands_0 : decode cX6_hands 0 = .ok (.aload_n 0, 1) := by decide +kernel
theorem dX6_hands_1 : decode cX6_hands 1 = .ok (.iload_n 1, 1) := by decide +kernel
theorem dX6_hands_2 : decode cX6_hands 2 = .ok (.invokevirtual 138, 3) := by decide +kernel
theorem dX6_hands_5 : decode cX6_hands 5 = .ok (.ifCond .ne 21, 3) := by decide +kernel
theorem dX6_hands_8 : decode cX6_hands 8 = .ok (.aload_n 0, 1) := by decide +kernel
theorem dX6_hands_9 : decode cX6_hands 9 = .ok (.iload_n 2, 1) := by decide +kernel
theorem dX6_hands_10 : decode cX6_hands 10 = .ok (.invokevirtual 138, 3) := by decide +kernel
theorem dX6_hands_13 : decode cX6_hands 13 = .ok (.ifCond .ne 13, 3) := by decide +kernel
theorem dX6_hands_16 : decode cX6_hands 16 = .ok (.iload_n 1, 1) := by decide +kernel
theorem dX6_hands_17 : decode cX6_hands 17 = .ok (.iload_n 2, 1) := by decide +kernel
theorem dX6_hands_18 : decode cX6_hands 18 = .ok (.if_icmp .eq 8, 3) := by decide +kernel
theorem dX6_hands_21 : decode cX6_hands 21 = .ok (.iload_n 3, 1) := by decide +kernel
theorem dX6_hands_22 : decode cX6_hands 22 = .ok (.iconst (-1), 1) := by decide +kernel
theorem dX6_hands_23 : decode cX6_hands 23 = .ok (.if_icmp .ge 10, 3) := by decide +kernel
theorem dX6_hands_26 : decode cX6_hands 26 = .ok (.aload_n 0, 1) := by decide +kernel
theorem dX6_hands_27 : decode cX6_hands 27 = .ok (.bipush (-10), 2) := by decide +kernel
theorem dX6_hands_29 : decode cX6_hands 29 = .ok (.invokevirtual 85, 3) := by decide +kernel
theorem dX6_hands_32 : decode cX6_hands 32 = .ok (.ireturn, 1) := by decide +kernel
theorem dX6_hands_33 : decode cX6_hands 33 = .ok (.aload_n 0, 1) := by decide +kernel
theorem dX6_hands_34 : decode cX6_hands 34 = .ok (.getfield 49, 3) := by decide +kernel
theorem dX6_hands_37 : decode cX6_hands 37 = .ok (.aload_n 0, 1) := by decide +kernel
theorem dX6_hands_38 : decode cX6_hands 38 = .ok (.getfield 10, 3) := by decide +kernel
theorem dX6_hands_41 : decode cX6_hands 41 = .ok (.aload_n 0, 1) := by decide +kernel
theorem dX6_hands_42 : decode cX6_hands 42 = .ok (.getfield 56, 3) := by decide +kernel
theorem dX6_hands_45 : decode cX6_hands 45 = .ok (.iload_n 1, 1) := by decide +kernel
theorem dX6_hands_46 : decode cX6_hands 46 = .ok (.iload_n 2, 1) := by decide +kernel
theorem dX6_hands_47 : decode cX6_hands 47 = .ok (.invokevirtual 269, 3) := by decide +kernel
theorem dX6_hands_50 : decode cX6_hands 50 = .ok (.iconst 0, 1) := by decide +kernel
theorem dX6_hands_51 : decode cX6_hands 51 = .ok (.istore 4, 2) := by decide +kernel
theorem dX6_hands_53 : decode cX6_hands 53 = .ok (.iconst 0, 1) := by decide +kernel
theorem dX6_hands_54 : decode cX6_hands 54 = .ok (.istore 5, 2) := by decide +kernel
theorem dX6_hands_56 : decode cX6_hands 56 = .ok (.iload 5, 2) := by decide +kernel
theorem dX6_hands_58 : decode cX6_hands 58 = .ok (.iconst 5, 1) := by decide +kernel
theorem dX6_hands_59 : decode cX6_hands 59 = .ok (.if_icmp .ge 56, 3) := by decide +kernel
theorem dX6_hands_62 : decode cX6_hands 62 = .ok (.iconst 0, 1) := by decide +kernel
theorem dX6_hands_63 : decode cX6_hands 63 = .ok (.istore 6, 2) := by decide +kernel
theorem dX6_hands_65 : decode cX6_hands 65 = .ok (.iload 6, 2) := by decide +kernel
theorem dX6_hands_67 : decode cX6_hands 67 = .ok (.iconst 5, 1) := by decide +kernel
theorem dX6_hands_68 : decode cX6_hands 68 = .ok (.if_icmp .ge 41, 3) := by decide +kernel
theorem dX6_hands_71 : decode cX6_hands 71 = .ok (.aload_n 0, 1) := by decide +kernel
theorem dX6_hands_72 : decode cX6_hands 72 = .ok (.getfield 49, 3) := by decide +kernel
theorem dX6_hands_75 : decode cX6_hands 75 = .ok (.iload 5, 2) := by decide +kernel
theorem dX6_hands_77 : decode cX6_hands 77 = .ok (.iload 6, 2) := by decide +kernel
theorem dX6_hands_79 : decode cX6_hands 79 = .ok (.invokevirtual 273, 3) := by decide +kernel
theorem dX6_hands_82 : decode cX6_hands 82 = .ok (.ifCond .eq 21, 3) := by decide +kernel
theorem dX6_hands_85 : decode cX6_hands 85 = .ok (.iload 4, 2) := by decide +kernel
theorem dX6_hands_87 : decode cX6_hands 87 = .ok (.iload_n 3, 1) := by decide +kernel
theorem dX6_hands_88 : decode cX6_hands 88 = .ok (.if_icmp .ne 12, 3) := by decide +kernel
theorem dX6_hands_91 : decode cX6_hands 91 = .ok (.bipush 10, 2) := by decide +kernel
theorem dX6_hands_93 : decode cX6_hands 93 = .ok (.iload 5, 2) := by decide +kernel
theorem dX6_hands_95 : decode cX6_hands 95 = .ok (.imul, 1) := by decide +kernel
theorem dX6_hands_96 : decode cX6_hands 96 = .ok (.iload 6, 2) := by decide +kernel
theorem dX6_hands_98 : decode cX6_hands 98 = .ok (.iadd, 1) := by decide +kernel
theorem dX6_hands_99 : decode cX6_hands 99 = .ok (.ireturn, 1) := by decide +kernel
theorem dX6_hands_100 : decode cX6_hands 100 = .ok (.iinc 4 1, 3) := by decide +kernel
theorem dX6_hands_103 : decode cX6_hands 103 = .ok (.iinc 6 1, 3) := by decide +kernel
theorem dX6_hands_106 : decode cX6_hands 106 = .ok (.goto (-41), 3) := by decide +kernel
theorem dX6_hands_109 : decode cX6_hands 109 = .ok (.iinc 5 1, 3) := by decide +kernel
theorem dX6_hands_112 : decode cX6_hands 112 = .ok (.goto (-56), 3) := by decide +kernel
theorem dX6_hands_115 : decode cX6_hands 115 = .ok (.iload_n 3, 1) := by decide +kernel
theorem dX6_hands_116 : decode cX6_hands 116 = .ok (.iconst (-1), 1) := by decide +kernel
theorem dX6_hands_117 : decode cX6_hands 117 = .ok (.if_icmp .ne 8, 3) := by decide +kernel
theorem dX6_hands_120 : decode cX6_hands 120 = .ok (.iload 4, 2) := by decide +kernel
theorem dX6_hands_122 : decode cX6_hands 122 = .ok (.goto 5, 3) := by decide +kernel
theorem dX6_hands_125 : decode cX6_hands 125 = .ok (.bipush (-5), 2) := by decide +kernel
theorem dX6_hands_127 : decode cX6_hands 127 = .ok (.ireturn, 1) := by decide +kernel
theorem dX6_slack_0 : decode cX6_slack 0 = .ok (.iload_n 1, 1) := by decide +kernel
theorem dX6_slack_1 : decode cX6_slack 1 = .ok (.iconst 0, 1) := by decide +kernel
theorem dX6_slack_2 : decode cX6_slack 2 = .ok (.bipush 6, 2) := by decide +kernel
theorem dX6_slack_4 : decode cX6_slack 4 = .ok (.invokestatic 81, 3) := by decide +kernel
theorem dX6_slack_7 : decode cX6_slack 7 = .ok (.ifCond .ne 13, 3) := by decide +kernel
theorem dX6_slack_10 : decode cX6_slack 10 = .ok (.iload_n 2, 1) := by decide +kernel
theorem dX6_slack_11 : decode cX6_slack 11 = .ok (.iconst 0, 1) := by decide +kernel
theorem dX6_slack_12 : decode cX6_slack 12 = .ok (.bipush 10, 2) := by decide +kernel
theorem dX6_slack_14 : decode cX6_slack 14 = .ok (.invokestatic 81, 3) := by decide +kernel
theorem dX6_slack_17 : decode cX6_slack 17 = .ok (.ifCond .eq 11, 3) := by decide +kernel
theorem dX6_slack_20 : decode cX6_slack 20 = .ok (.aload_n 0, 1) := by decide +kernel
theorem dX6_slack_21 : decode cX6_slack 21 = .ok (.sipush (-1002), 3) := by decide +kernel
theorem dX6_slack_24 : decode cX6_slack 24 = .ok (.invokevirtual 85, 3) := by decide +kernel
theorem dX6_slack_27 : decode cX6_slack 27 = .ok (.ireturn, 1) := by decide +kernel
theorem dX6_slack_28 : decode cX6_slack 28 = .ok (.lconst 1, 1) := by decide +kernel
theorem dX6_slack_29 : decode cX6_slack 29 = .ok (.lstore_n 3, 1) := by decide +kernel
theorem dX6_slack_30 : decode cX6_slack 30 = .ok (.iconst 0, 1) := by decide +kernel
theorem dX6_slack_31 : decode cX6_slack 31 = .ok (.istore 5, 2) := by decide +kernel
theorem dX6_slack_33 : decode cX6_slack 33 = .ok (.iload 5, 2) := by decide +kernel
theorem dX6_slack_35 : decode cX6_slack 35 = .ok (.iload_n 1, 1) := by decide +kernel
theorem dX6_slack_36 : decode cX6_slack 36 = .ok (.if_icmp .ge 15, 3) := by decide +kernel
theorem dX6_slack_39 : decode cX6_slack 39 = .ok (.lload_n 3, 1) := by decide +kernel
theorem dX6_slack_40 : decode cX6_slack 40 = .ok (.ldc2_w 276, 3) := by decide +kernel
theorem dX6_slack_43 : decode cX6_slack 43 = .ok (.lmul, 1) := by decide +kernel
theorem dX6_slack_44 : decode cX6_slack 44 = .ok (.lstore_n 3, 1) := by decide +kernel
theorem dX6_slack_45 : decode cX6_slack 45 = .ok (.iinc 5 1, 3) := by decide +kernel
theorem dX6_slack_48 : decode cX6_slack 48 = .ok (.goto (-15), 3) := by decide +kernel
theorem dX6_slack_51 : decode cX6_slack 51 = .ok (.aload_n 0, 1) := by decide +kernel
theorem dX6_slack_52 : decode cX6_slack 52 = .ok (.iload_n 1, 1) := by decide +kernel
theorem dX6_slack_53 : decode cX6_slack 53 = .ok (.ifCond .ne 7, 3) := by decide +kernel
theorem dX6_slack_56 : decode cX6_slack 56 = .ok (.lconst 1, 1) := by decide +kernel
theorem dX6_slack_57 : decode cX6_slack 57 = .ok (.goto 9, 3) := by decide +kernel
theorem dX6_slack_60 : decode cX6_slack 60 = .ok (.aload_n 0, 1) := by decide +kernel
theorem dX6_slack_61 : decode cX6_slack 61 = .ok (.iload_n 1, 1) := by decide +kernel
theorem dX6_slack_62 : decode cX6_slack 62 = .ok (.iload_n 2, 1) := by decide +kernel
theorem dX6_slack_63 : decode cX6_slack 63 = .ok (.invokevirtual 278, 3) := by decide +kernel
theorem dX6_slack_66 : decode cX6_slack 66 = .ok (.lload_n 3, 1) := by decide +kernel
theorem dX6_slack_67 : decode cX6_slack 67 = .ok (.invokevirtual 282, 3) := by decide +kernel
theorem dX6_slack_70 : decode cX6_slack 70 = .ok (.iconst 1, 1) := by decide +kernel
theorem dX6_slack_71 : decode cX6_slack 71 = .ok (.ireturn, 1) := by decide +kernel
theorem dX6_nights_0 : decode cX6_nights 0 = .ok (.iload_n 1, 1) := by decide +kernel
theorem dX6_nights_1 : decode cX6_nights 1 = .ok (.iconst 0, 1) := by decide +kernel
theorem dX6_nights_2 : decode cX6_nights 2 = .ok (.ldc_w 286, 3) := by decide +kernel
theorem dX6_nights_5 : decode cX6_nights 5 = .ok (.invokestatic 81, 3) := by decide +kernel
theorem dX6_nights_8 : decode cX6_nights 8 = .ok (.ifCond .ne 13, 3) := by decide +kernel
theorem dX6_nights_11 : decode cX6_nights 11 = .ok (.iload_n 2, 1) := by decide +kernel
theorem dX6_nights_12 : decode cX6_nights 12 = .ok (.iconst 0, 1) := by decide +kernel
theorem dX6_nights_13 : decode cX6_nights 13 = .ok (.bipush 60, 2) := by decide +kernel
theorem dX6_nights_15 : decode cX6_nights 15 = .ok (.invokestatic 81, 3) := by decide +kernel
theorem dX6_nights_18 : decode cX6_nights 18 = .ok (.ifCond .eq 11, 3) := by decide +kernel
theorem dX6_nights_21 : decode cX6_nights 21 = .ok (.aload_n 0, 1) := by decide +kernel
theorem dX6_nights_22 : decode cX6_nights 22 = .ok (.sipush (-1002), 3) := by decide +kernel
theorem dX6_nights_25 : decode cX6_nights 25 = .ok (.invokevirtual 85, 3) := by decide +kernel
theorem dX6_nights_28 : decode cX6_nights 28 = .ok (.ireturn, 1) := by decide +kernel
theorem dX6_nights_29 : decode cX6_nights 29 = .ok (.iload_n 1, 1) := by decide +kernel
theorem dX6_nights_30 : decode cX6_nights 30 = .ok (.i2l, 1) := by decide +kernel
theorem dX6_nights_31 : decode cX6_nights 31 = .ok (.lstore_n 3, 1) := by decide +kernel
theorem dX6_nights_32 : decode cX6_nights 32 = .ok (.aload_n 0, 1) := by decide +kernel
theorem dX6_nights_33 : decode cX6_nights 33 = .ok (.getfield 56, 3) := by decide +kernel
theorem dX6_nights_36 : decode cX6_nights 36 = .ok (.aload_n 0, 1) := by decide +kernel
theorem dX6_nights_37 : decode cX6_nights 37 = .ok (.getfield 10, 3) := by decide +kernel
theorem dX6_nights_40 : decode cX6_nights 40 = .ok (.getfield 118, 3) := by decide +kernel
theorem dX6_nights_43 : decode cX6_nights 43 = .ok (.invokevirtual 211, 3) := by decide +kernel
theorem dX6_nights_46 : decode cX6_nights 46 = .ok (.iconst 0, 1) := by decide +kernel
theorem dX6_nights_47 : decode cX6_nights 47 = .ok (.istore 5, 2) := by decide +kernel
theorem dX6_nights_49 : decode cX6_nights 49 = .ok (.iload 5, 2) := by decide +kernel
theorem dX6_nights_51 : decode cX6_nights 51 = .ok (.iload_n 2, 1) := by decide +kernel
theorem dX6_nights_52 : decode cX6_nights 52 = .ok (.if_icmp .ge 44, 3) := by decide +kernel
theorem dX6_nights_55 : decode cX6_nights 55 = .ok (.lload_n 3, 1) := by decide +kernel
theorem dX6_nights_56 : decode cX6_nights 56 = .ok (.ldc2_w 287, 3) := by decide +kernel
theorem dX6_nights_59 : decode cX6_nights 59 = .ok (.lmul, 1) := by decide +kernel
theorem dX6_nights_60 : decode cX6_nights 60 = .ok (.ldc2_w 289, 3) := by decide +kernel
theorem dX6_nights_63 : decode cX6_nights 63 = .ok (.ladd, 1) := by decide +kernel
theorem dX6_nights_64 : decode cX6_nights 64 = .ok (.ldc2_w 291, 3) := by decide +kernel
theorem dX6_nights_67 : decode cX6_nights 67 = .ok (.lrem, 1) := by decide +kernel
theorem dX6_nights_68 : decode cX6_nights 68 = .ok (.lstore_n 3, 1) := by decide +kernel
theorem dX6_nights_69 : decode cX6_nights 69 = .ok (.aload_n 0, 1) := by decide +kernel
theorem dX6_nights_70 : decode cX6_nights 70 = .ok (.getfield 10, 3) := by decide +kernel
theorem dX6_nights_73 : decode cX6_nights 73 = .ok (.aload_n 0, 1) := by decide +kernel
theorem dX6_nights_74 : decode cX6_nights 74 = .ok (.getfield 56, 3) := by decide +kernel
theorem dX6_nights_77 : decode cX6_nights 77 = .ok (.lload_n 3, 1) := by decide +kernel
theorem dX6_nights_78 : decode cX6_nights 78 = .ok (.ldc2_w 293, 3) := by decide +kernel
theorem dX6_nights_81 : decode cX6_nights 81 = .ok (.ldiv, 1) := by decide +kernel
theorem dX6_nights_82 : decode cX6_nights 82 = .ok (.ldc2_w 295, 3) := by decide +kernel
theorem dX6_nights_85 : decode cX6_nights 85 = .ok (.lrem, 1) := by decide +kernel
theorem dX6_nights_86 : decode cX6_nights 86 = .ok (.l2i, 1) := by decide +kernel
theorem dX6_nights_87 : decode cX6_nights 87 = .ok (.invokevirtual 130, 3) := by decide +kernel
theorem dX6_nights_90 : decode cX6_nights 90 = .ok (.iinc 5 1, 3) := by decide +kernel
theorem dX6_nights_93 : decode cX6_nights 93 = .ok (.goto (-44), 3) := by decide +kernel
theorem dX6_nights_96 : decode cX6_nights 96 = .ok (.aload_n 0, 1) := by decide +kernel
theorem dX6_nights_97 : decode cX6_nights 97 = .ok (.getfield 10, 3) := by decide +kernel
theorem dX6_nights_100 : decode cX6_nights 100 = .ok (.aload_n 0, 1) := by decide +kernel
theorem dX6_nights_101 : decode cX6_nights 101 = .ok (.getfield 56, 3) := by decide +kernel
theorem dX6_nights_104 : decode cX6_nights 104 = .ok (.invokevirtual 134, 3) := by decide +kernel
theorem dX6_nights_107 : decode cX6_nights 107 = .ok (.ireturn, 1) := by decide +kernel
theorem dX6_part_0 : decode cX6_part 0 = .ok (.iload_n 1, 1) := by decide +kernel
theorem dX6_part_1 : decode cX6_part 1 = .ok (.iconst 0, 1) := by decide +kernel
theorem dX6_part_2 : decode cX6_part 2 = .ok (.iconst 1, 1) := by decide +kernel
theorem dX6_part_3 : decode cX6_part 3 = .ok (.invokestatic 81, 3) := by decide +kernel
theorem dX6_part_6 : decode cX6_part 6 = .ok (.ifCond .eq 12, 3) := by decide +kernel
theorem dX6_part_9 : decode cX6_part 9 = .ok (.aload_n 0, 1) := by decide +kernel
theorem dX6_part_10 : decode cX6_part 10 = .ok (.sipush (-1002), 3) := by decide +kernel
theorem dX6_part_13 : decode cX6_part 13 = .ok (.invokevirtual 85, 3) := by decide +kernel
theorem dX6_part_16 : decode cX6_part 16 = .ok (.i2l, 1) := by decide +kernel
theorem dX6_part_17 : decode cX6_part 17 = .ok (.lreturn, 1) := by decide +kernel
theorem dX6_part_18 : decode cX6_part 18 = .ok (.iload_n 1, 1) := by decide +kernel
theorem dX6_part_19 : decode cX6_part 19 = .ok (.ifCond .ne 10, 3) := by decide +kernel
theorem dX6_part_22 : decode cX6_part 22 = .ok (.aload_n 0, 1) := by decide +kernel
theorem dX6_part_23 : decode cX6_part 23 = .ok (.getfield 64, 3) := by decide +kernel
theorem dX6_part_26 : decode cX6_part 26 = .ok (.goto 7, 3) := by decide +kernel
theorem dX6_part_29 : decode cX6_part 29 = .ok (.aload_n 0, 1) := by decide +kernel
theorem dX6_part_30 : decode cX6_part 30 = .ok (.getfield 68, 3) := by decide +kernel
theorem dX6_part_33 : decode cX6_part 33 = .ok (.lreturn, 1) := by decide +kernel
theorem dX6_image_0 : decode cX6_image 0 = .ok (.iload_n 1, 1) := by decide +kernel
theorem dX6_image_1 : decode cX6_image 1 = .ok (.iconst 0, 1) := by decide +kernel
theorem dX6_image_2 : decode cX6_image 2 = .ok (.iconst 1, 1) := by decide +kernel
theorem dX6_image_3 : decode cX6_image 3 = .ok (.invokestatic 81, 3) := by decide +kernel
theorem dX6_image_6 : decode cX6_image 6 = .ok (.ifCond .eq 11, 3) := by decide +kernel
theorem dX6_image_9 : decode cX6_image 9 = .ok (.aload_n 0, 1) := by decide +kernel
theorem dX6_image_10 : decode cX6_image 10 = .ok (.sipush (-1002), 3) := by decide +kernel
theorem dX6_image_13 : decode cX6_image 13 = .ok (.invokevirtual 85, 3) := by decide +kernel
theorem dX6_image_16 : decode cX6_image 16 = .ok (.ireturn, 1) := by decide +kernel
theorem dX6_image_17 : decode cX6_image 17 = .ok (.iload_n 1, 1) := by decide +kernel
theorem dX6_image_18 : decode cX6_image 18 = .ok (.ifCond .ne 22, 3) := by decide +kernel
theorem dX6_image_21 : decode cX6_image 21 = .ok (.aload_n 0, 1) := by decide +kernel
theorem dX6_image_22 : decode cX6_image 22 = .ok (.getfield 19, 3) := by decide +kernel
theorem dX6_image_25 : decode cX6_image 25 = .ok (.aload_n 0, 1) := by decide +kernel
theorem dX6_image_26 : decode cX6_image 26 = .ok (.getfield 10, 3) := by decide +kernel
theorem dX6_image_29 : decode cX6_image 29 = .ok (.invokevirtual 114, 3) := by decide +kernel
theorem dX6_image_32 : decode cX6_image 32 = .ok (.aload_n 0, 1) := by decide +kernel
theorem dX6_image_33 : decode cX6_image 33 = .ok (.iconst 1, 1) := by decide +kernel
theorem dX6_image_34 : decode cX6_image 34 = .ok (.putfield 25, 3) := by decide +kernel
theorem dX6_image_37 : decode cX6_image 37 = .ok (.goto 19, 3) := by decide +kernel
theorem dX6_image_40 : decode cX6_image 40 = .ok (.aload_n 0, 1) := by decide +kernel
theorem dX6_image_41 : decode cX6_image 41 = .ok (.getfield 22, 3) := by decide +kernel
theorem dX6_image_44 : decode cX6_image 44 = .ok (.aload_n 0, 1) := by decide +kernel
theorem dX6_image_45 : decode cX6_image 45 = .ok (.getfield 10, 3) := by decide +kernel
theorem dX6_image_48 : decode cX6_image 48 = .ok (.invokevirtual 114, 3) := by decide +kernel
theorem dX6_image_51 : decode cX6_image 51 = .ok (.aload_n 0, 1) := by decide +kernel
theorem dX6_image_52 : decode cX6_image 52 = .ok (.iconst 1, 1) := by decide +kernel
theorem dX6_image_53 : decode cX6_image 53 = .ok (.putfield 29, 3) := by decide +kernel
theorem dX6_image_56 : decode cX6_image 56 = .ok (.iconst 1, 1) := by decide +kernel
theorem dX6_image_57 : decode cX6_image 57 = .ok (.ireturn, 1) := by decide +kernel
theorem dX6_from_0 : decode cX6_from 0 = .ok (.iload_n 1, 1) := by decide +kernel
theorem dX6_from_1 : decode cX6_from 1 = .ok (.iconst 0, 1) := by decide +kernel
theorem dX6_from_2 : decode cX6_from 2 = .ok (.iconst 1, 1) := by decide +kernel
theorem dX6_from_3 : decode cX6_from 3 = .ok (.invokestatic 81, 3) := by decide +kernel
theorem dX6_from_6 : decode cX6_from 6 = .ok (.ifCond .eq 11, 3) := by decide +kernel
theorem dX6_from_9 : decode cX6_from 9 = .ok (.aload_n 0, 1) := by decide +kernel
theorem dX6_from_10 : decode cX6_from 10 = .ok (.sipush (-1002), 3) := by decide +kernel
theorem dX6_from_13 : decode cX6_from 13 = .ok (.invokevirtual 85, 3) := by decide +kernel
theorem dX6_from_16 : decode cX6_from 16 = .ok (.ireturn, 1) := by decide +kernel
theorem dX6_from_17 : decode cX6_from 17 = .ok (.iload_n 1, 1) := by decide +kernel
theorem dX6_from_18 : decode cX6_from 18 = .ok (.ifCond .ne 10, 3) := by decide +kernel
theorem dX6_from_21 : decode cX6_from 21 = .ok (.aload_n 0, 1) := by decide +kernel
theorem dX6_from_22 : decode cX6_from 22 = .ok (.getfield 25, 3) := by decide +kernel
theorem dX6_from_25 : decode cX6_from 25 = .ok (.goto 7, 3) := by decide +kernel
theorem dX6_from_28 : decode cX6_from 28 = .ok (.aload_n 0, 1) := by decide +kernel
theorem dX6_from_29 : decode cX6_from 29 = .ok (.getfield 29, 3) := by decide +kernel
theorem dX6_from_32 : decode cX6_from 32 = .ok (.istore_n 2, 1) := by decide +kernel
theorem dX6_from_33 : decode cX6_from 33 = .ok (.iload_n 2, 1) := by decide +kernel
theorem dX6_from_34 : decode cX6_from 34 = .ok (.ifCond .ne 8, 3) := by decide +kernel
theorem dX6_from_37 : decode cX6_from 37 = .ok (.aload_n 0, 1) := by decide +kernel
theorem dX6_from_38 : decode cX6_from 38 = .ok (.invokevirtual 124, 3) := by decide +kernel
theorem dX6_from_41 : decode cX6_from 41 = .ok (.ireturn, 1) := by decide +kernel
theorem dX6_from_42 : decode cX6_from 42 = .ok (.aload_n 0, 1) := by decide +kernel
theorem dX6_from_43 : decode cX6_from 43 = .ok (.getfield 10, 3) := by decide +kernel
theorem dX6_from_46 : decode cX6_from 46 = .ok (.iload_n 1, 1) := by decide +kernel
theorem dX6_from_47 : decode cX6_from 47 = .ok (.ifCond .ne 10, 3) := by decide +kernel
theorem dX6_from_50 : decode cX6_from 50 = .ok (.aload_n 0, 1) := by decide +kernel
theorem dX6_from_51 : decode cX6_from 51 = .ok (.getfield 19, 3) := by decide +kernel
theorem dX6_from_54 : decode cX6_from 54 = .ok (.goto 7, 3) := by decide +kernel
theorem dX6_from_57 : decode cX6_from 57 = .ok (.aload_n 0, 1) := by decide +kernel
theorem dX6_from_58 : decode cX6_from 58 = .ok (.getfield 22, 3) := by decide +kernel
theorem dX6_from_61 : decode cX6_from 61 = .ok (.invokevirtual 114, 3) := by decide +kernel
theorem dX6_from_64 : decode cX6_from 64 = .ok (.iconst 1, 1) := by decide +kernel
theorem dX6_from_65 : decode cX6_from 65 = .ok (.ireturn, 1) := by decide +kernel
theorem dX6_status_0 : decode cX6_status 0 = .ok (.iload_n 1, 1) := by decide +kernel
theorem dX6_status_1 : decode cX6_status 1 = .ok (.tableswitch 42 0 2 #[27, 32, 37], 27) := by decide +kernel
theorem dX6_status_28 : decode cX6_status 28 = .ok (.aload_n 0, 1) := by decide +kernel
theorem dX6_status_29 : decode cX6_status 29 = .ok (.getfield 71, 3) := by decide +kernel
theorem dX6_status_32 : decode cX6_status 32 = .ok (.ireturn, 1) := by decide +kernel
theorem dX6_status_33 : decode cX6_status 33 = .ok (.aload_n 0, 1) := by decide +kernel
theorem dX6_status_34 : decode cX6_status 34 = .ok (.getfield 75, 3) := by decide +kernel
theorem dX6_status_37 : decode cX6_status 37 = .ok (.ireturn, 1) := by decide +kernel
theorem dX6_status_38 : decode cX6_status 38 = .ok (.aload_n 0, 1) := by decide +kernel
theorem dX6_status_39 : decode cX6_status 39 = .ok (.getfield 78, 3) := by decide +kernel
theorem dX6_status_42 : decode cX6_status 42 = .ok (.ireturn, 1) := by decide +kernel
theorem dX6_status_43 : decode cX6_status 43 = .ok (.aload_n 0, 1) := by decide +kernel
theorem dX6_status_44 : decode cX6_status 44 = .ok (.iconst (-1), 1) := by decide +kernel
theorem dX6_status_45 : decode cX6_status 45 = .ok (.invokevirtual 85, 3) := by decide +kernel
theorem dX6_status_48 : decode cX6_status 48 = .ok (.ireturn, 1) := by decide +kernel
theorem dX6_count_0 : decode cX6_count 0 = .ok (.iload_n 1, 1) := by decide +kernel
theorem dX6_count_1 : decode cX6_count 1 = .ok (.iconst 0, 1) := by decide +kernel
theorem dX6_count_2 : decode cX6_count 2 = .ok (.bipush 10, 2) := by decide +kernel
theorem dX6_count_4 : decode cX6_count 4 = .ok (.invokestatic 81, 3) := by decide +kernel
theorem dX6_count_7 : decode cX6_count 7 = .ok (.ifCond .eq 11, 3) := by decide +kernel
theorem dX6_count_10 : decode cX6_count 10 = .ok (.aload_n 0, 1) := by decide +kernel
theorem dX6_count_11 : decode cX6_count 11 = .ok (.sipush (-1002), 3) := by decide +kernel
theorem dX6_count_14 : decode cX6_count 14 = .ok (.invokevirtual 85, 3) := by decide +kernel
theorem dX6_count_17 : decode cX6_count 17 = .ok (.ireturn, 1) := by decide +kernel
theorem dX6_count_18 : decode cX6_count 18 = .ok (.aload_n 0, 1) := by decide +kernel
theorem dX6_count_19 : decode cX6_count 19 = .ok (.iload_n 1, 1) := by decide +kernel
theorem dX6_count_20 : decode cX6_count 20 = .ok (.invokevirtual 297, 3) := by decide +kernel
theorem dX6_count_23 : decode cX6_count 23 = .ok (.ireturn, 1) := by decide +kernel
theorem dX6_digest_0 : decode cX6_digest 0 = .ok (.ldc2_w 300, 3) := by decide +kernel
theorem dX6_digest_3 : decode cX6_digest 3 = .ok (.lstore_n 1, 1) := by decide +kernel
theorem dX6_digest_4 : decode cX6_digest 4 = .ok (.iconst 0, 1) := by decide +kernel
theorem dX6_digest_5 : decode cX6_digest 5 = .ok (.istore_n 3, 1) := by decide +kernel
theorem dX6_digest_6 : decode cX6_digest 6 = .ok (.iload_n 3, 1) := by decide +kernel
theorem dX6_digest_7 : decode cX6_digest 7 = .ok (.bipush 10, 2) := by decide +kernel
theorem dX6_digest_9 : decode cX6_digest 9 = .ok (.if_icmp .gt 22, 3) := by decide +kernel
theorem dX6_digest_12 : decode cX6_digest 12 = .ok (.ldc2_w 302, 3) := by decide +kernel
theorem dX6_digest_15 : decode cX6_digest 15 = .ok (.lload_n 1, 1) := by decide +kernel
theorem dX6_digest_16 : decode cX6_digest 16 = .ok (.lmul, 1) := by decide +kernel
theorem dX6_digest_17 : decode cX6_digest 17 = .ok (.aload_n 0, 1) := by decide +kernel
theorem dX6_digest_18 : decode cX6_digest 18 = .ok (.iload_n 3, 1) := by decide +kernel
theorem dX6_digest_19 : decode cX6_digest 19 = .ok (.invokevirtual 297, 3) := by decide +kernel
theorem dX6_digest_22 : decode cX6_digest 22 = .ok (.i2l, 1) := by decide +kernel
theorem dX6_digest_23 : decode cX6_digest 23 = .ok (.ladd, 1) := by decide +kernel
theorem dX6_digest_24 : decode cX6_digest 24 = .ok (.lstore_n 1, 1) := by decide +kernel
theorem dX6_digest_25 : decode cX6_digest 25 = .ok (.iinc 3 1, 3) := by decide +kernel
theorem dX6_digest_28 : decode cX6_digest 28 = .ok (.goto (-22), 3) := by decide +kernel
theorem dX6_digest_31 : decode cX6_digest 31 = .ok (.iconst 0, 1) := by decide +kernel
theorem dX6_digest_32 : decode cX6_digest 32 = .ok (.istore_n 3, 1) := by decide +kernel
theorem dX6_digest_33 : decode cX6_digest 33 = .ok (.iload_n 3, 1) := by decide +kernel
theorem dX6_digest_34 : decode cX6_digest 34 = .ok (.aload_n 0, 1) := by decide +kernel
theorem dX6_digest_35 : decode cX6_digest 35 = .ok (.getfield 10, 3) := by decide +kernel
theorem dX6_digest_38 : decode cX6_digest 38 = .ok (.getfield 89, 3) := by decide +kernel
theorem dX6_digest_41 : decode cX6_digest 41 = .ok (.if_icmp .ge 43, 3) := by decide +kernel
theorem dX6_digest_44 : decode cX6_digest 44 = .ok (.iconst 0, 1) := by decide +kernel
theorem dX6_digest_45 : decode cX6_digest 45 = .ok (.istore 4, 2) := by decide +kernel
theorem dX6_digest_47 : decode cX6_digest 47 = .ok (.iload 4, 2) := by decide +kernel
theorem dX6_digest_49 : decode cX6_digest 49 = .ok (.bipush 6, 2) := by decide +kernel
theorem dX6_digest_51 : decode cX6_digest 51 = .ok (.if_icmp .gt 27, 3) := by decide +kernel
theorem dX6_digest_54 : decode cX6_digest 54 = .ok (.ldc2_w 302, 3) := by decide +kernel
theorem dX6_digest_57 : decode cX6_digest 57 = .ok (.lload_n 1, 1) := by decide +kernel
theorem dX6_digest_58 : decode cX6_digest 58 = .ok (.lmul, 1) := by decide +kernel
theorem dX6_digest_59 : decode cX6_digest 59 = .ok (.aload_n 0, 1) := by decide +kernel
theorem dX6_digest_60 : decode cX6_digest 60 = .ok (.getfield 10, 3) := by decide +kernel
theorem dX6_digest_63 : decode cX6_digest 63 = .ok (.iload_n 3, 1) := by decide +kernel
theorem dX6_digest_64 : decode cX6_digest 64 = .ok (.iload 4, 2) := by decide +kernel
theorem dX6_digest_66 : decode cX6_digest 66 = .ok (.invokevirtual 167, 3) := by decide +kernel
theorem dX6_digest_69 : decode cX6_digest 69 = .ok (.i2l, 1) := by decide +kernel
theorem dX6_digest_70 : decode cX6_digest 70 = .ok (.ladd, 1) := by decide +kernel
theorem dX6_digest_71 : decode cX6_digest 71 = .ok (.lstore_n 1, 1) := by decide +kernel
theorem dX6_digest_72 : decode cX6_digest 72 = .ok (.iinc 4 1, 3) := by decide +kernel
theorem dX6_digest_75 : decode cX6_digest 75 = .ok (.goto (-28), 3) := by decide +kernel
theorem dX6_digest_78 : decode cX6_digest 78 = .ok (.iinc 3 1, 3) := by decide +kernel
theorem dX6_digest_81 : decode cX6_digest 81 = .ok (.goto (-48), 3) := by decide +kernel
theorem dX6_digest_84 : decode cX6_digest 84 = .ok (.iconst 0, 1) := by decide +kernel
theorem dX6_digest_85 : decode cX6_digest 85 = .ok (.istore_n 3, 1) := by decide +kernel
theorem dX6_digest_86 : decode cX6_digest 86 = .ok (.iload_n 3, 1) := by decide +kernel
theorem dX6_digest_87 : decode cX6_digest 87 = .ok (.bipush 8, 2) := by decide +kernel
theorem dX6_digest_89 : decode cX6_digest 89 = .ok (.if_icmp .ge 47, 3) := by decide +kernel
theorem dX6_digest_92 : decode cX6_digest 92 = .ok (.ldc2_w 302, 3) := by decide +kernel
theorem dX6_digest_95 : decode cX6_digest 95 = .ok (.lload_n 1, 1) := by decide +kernel
theorem dX6_digest_96 : decode cX6_digest 96 = .ok (.lmul, 1) := by decide +kernel
theorem dX6_digest_97 : decode cX6_digest 97 = .ok (.aload_n 0, 1) := by decide +kernel
theorem dX6_digest_98 : decode cX6_digest 98 = .ok (.getfield 10, 3) := by decide +kernel
theorem dX6_digest_101 : decode cX6_digest 101 = .ok (.getfield 202, 3) := by decide +kernel
theorem dX6_digest_104 : decode cX6_digest 104 = .ok (.iload_n 3, 1) := by decide +kernel
theorem dX6_digest_105 : decode cX6_digest 105 = .ok (.invokestatic 195, 3) := by decide +kernel
theorem dX6_digest_108 : decode cX6_digest 108 = .ok (.i2l, 1) := by decide +kernel
theorem dX6_digest_109 : decode cX6_digest 109 = .ok (.ladd, 1) := by decide +kernel
theorem dX6_digest_110 : decode cX6_digest 110 = .ok (.lstore_n 1, 1) := by decide +kernel
theorem dX6_digest_111 : decode cX6_digest 111 = .ok (.ldc2_w 302, 3) := by decide +kernel
theorem dX6_digest_114 : decode cX6_digest 114 = .ok (.lload_n 1, 1) := by decide +kernel
theorem dX6_digest_115 : decode cX6_digest 115 = .ok (.lmul, 1) := by decide +kernel
theorem dX6_digest_116 : decode cX6_digest 116 = .ok (.aload_n 0, 1) := by decide +kernel
theorem dX6_digest_117 : decode cX6_digest 117 = .ok (.getfield 10, 3) := by decide +kernel
theorem dX6_digest_120 : decode cX6_digest 120 = .ok (.getfield 205, 3) := by decide +kernel
theorem dX6_digest_123 : decode cX6_digest 123 = .ok (.iload_n 3, 1) := by decide +kernel
theorem dX6_digest_124 : decode cX6_digest 124 = .ok (.invokestatic 195, 3) := by decide +kernel
theorem dX6_digest_127 : decode cX6_digest 127 = .ok (.i2l, 1) := by decide +kernel
theorem dX6_digest_128 : decode cX6_digest 128 = .ok (.ladd, 1) := by decide +kernel
theorem dX6_digest_129 : decode cX6_digest 129 = .ok (.lstore_n 1, 1) := by decide +kernel
theorem dX6_digest_130 : decode cX6_digest 130 = .ok (.iinc 3 1, 3) := by decide +kernel
theorem dX6_digest_133 : decode cX6_digest 133 = .ok (.goto (-47), 3) := by decide +kernel
theorem dX6_digest_136 : decode cX6_digest 136 = .ok (.ldc2_w 302, 3) := by decide +kernel
theorem dX6_digest_139 : decode cX6_digest 139 = .ok (.lload_n 1, 1) := by decide +kernel
theorem dX6_digest_140 : decode cX6_digest 140 = .ok (.lmul, 1) := by decide +kernel
theorem dX6_digest_141 : decode cX6_digest 141 = .ok (.aload_n 0, 1) := by decide +kernel
theorem dX6_digest_142 : decode cX6_digest 142 = .ok (.getfield 10, 3) := by decide +kernel
theorem dX6_digest_145 : decode cX6_digest 145 = .ok (.getfield 208, 3) := by decide +kernel
theorem dX6_digest_148 : decode cX6_digest 148 = .ok (.i2l, 1) := by decide +kernel
theorem dX6_digest_149 : decode cX6_digest 149 = .ok (.ladd, 1) := by decide +kernel
theorem dX6_digest_150 : decode cX6_digest 150 = .ok (.lstore_n 1, 1) := by decide +kernel
theorem dX6_digest_151 : decode cX6_digest 151 = .ok (.aload_n 0, 1) := by decide +kernel
theorem dX6_digest_152 : decode cX6_digest 152 = .ok (.getfield 10, 3) := by decide +kernel
theorem dX6_digest_155 : decode cX6_digest 155 = .ok (.getfield 218, 3) := by decide +kernel
theorem dX6_digest_158 : decode cX6_digest 158 = .ok (.lload_n 1, 1) := by decide +kernel
theorem dX6_digest_159 : decode cX6_digest 159 = .ok (.invokevirtual 304, 3) := by decide +kernel
theorem dX6_digest_162 : decode cX6_digest 162 = .ok (.lstore_n 1, 1) := by decide +kernel
theorem dX6_digest_163 : decode cX6_digest 163 = .ok (.aload_n 0, 1) := by decide +kernel
theorem dX6_digest_164 : decode cX6_digest 164 = .ok (.getfield 10, 3) := by decide +kernel
theorem dX6_digest_167 : decode cX6_digest 167 = .ok (.getfield 247, 3) := by decide +kernel
theorem dX6_digest_170 : decode cX6_digest 170 = .ok (.lload_n 1, 1) := by decide +kernel
theorem dX6_digest_171 : decode cX6_digest 171 = .ok (.invokevirtual 304, 3) := by decide +kernel
theorem dX6_digest_174 : decode cX6_digest 174 = .ok (.lstore_n 1, 1) := by decide +kernel
theorem dX6_digest_175 : decode cX6_digest 175 = .ok (.aload_n 0, 1) := by decide +kernel
theorem dX6_digest_176 : decode cX6_digest 176 = .ok (.getfield 10, 3) := by decide +kernel
theorem dX6_digest_179 : decode cX6_digest 179 = .ok (.getfield 250, 3) := by decide +kernel
theorem dX6_digest_182 : decode cX6_digest 182 = .ok (.lload_n 1, 1) := by decide +kernel
theorem dX6_digest_183 : decode cX6_digest 183 = .ok (.invokevirtual 304, 3) := by decide +kernel
theorem dX6_digest_186 : decode cX6_digest 186 = .ok (.lstore_n 1, 1) := by decide +kernel
theorem dX6_digest_187 : decode cX6_digest 187 = .ok (.ldc2_w 302, 3) := by decide +kernel
theorem dX6_digest_190 : decode cX6_digest 190 = .ok (.lload_n 1, 1) := by decide +kernel
theorem dX6_digest_191 : decode cX6_digest 191 = .ok (.lmul, 1) := by decide +kernel
theorem dX6_digest_192 : decode cX6_digest 192 = .ok (.aload_n 0, 1) := by decide +kernel
theorem dX6_digest_193 : decode cX6_digest 193 = .ok (.getfield 64, 3) := by decide +kernel
theorem dX6_digest_196 : decode cX6_digest 196 = .ok (.ladd, 1) := by decide +kernel
theorem dX6_digest_197 : decode cX6_digest 197 = .ok (.lstore_n 1, 1) := by decide +kernel
theorem dX6_digest_198 : decode cX6_digest 198 = .ok (.ldc2_w 302, 3) := by decide +kernel
theorem dX6_digest_201 : decode cX6_digest 201 = .ok (.lload_n 1, 1) := by decide +kernel
theorem dX6_digest_202 : decode cX6_digest 202 = .ok (.lmul, 1) := by decide +kernel
theorem dX6_digest_203 : decode cX6_digest 203 = .ok (.aload_n 0, 1) := by decide +kernel
theorem dX6_digest_204 : decode cX6_digest 204 = .ok (.getfield 68, 3) := by decide +kernel
theorem dX6_digest_207 : decode cX6_digest 207 = .ok (.ladd, 1) := by decide +kernel
theorem dX6_digest_208 : decode cX6_digest 208 = .ok (.lreturn, 1) := by decide +kernel
theorem dX6_refuseBad_0 : decode cX6_refuseBad 0 = .ok (.aload_n 0, 1) := by decide +kernel
theorem dX6_refuseBad_1 : decode cX6_refuseBad 1 = .ok (.dup, 1) := by decide +kernel
theorem dX6_refuseBad_2 : decode cX6_refuseBad 2 = .ok (.getfield 71, 3) := by decide +kernel
theorem dX6_refuseBad_5 : decode cX6_refuseBad 5 = .ok (.iconst 1, 1) := by decide +kernel
theorem dX6_refuseBad_6 : decode cX6_refuseBad 6 = .ok (.iadd, 1) := by decide +kernel
theorem dX6_refuseBad_7 : decode cX6_refuseBad 7 = .ok (.putfield 71, 3) := by decide +kernel
theorem dX6_refuseBad_10 : decode cX6_refuseBad 10 = .ok (.iload_n 1, 1) := by decide +kernel
theorem dX6_refuseBad_11 : decode cX6_refuseBad 11 = .ok (.ireturn, 1) := by decide +kernel
theorem dX6_refuseNo_0 : decode cX6_refuseNo 0 = .ok (.aload_n 0, 1) := by decide +kernel
theorem dX6_refuseNo_1 : decode cX6_refuseNo 1 = .ok (.dup, 1) := by decide +kernel
theorem dX6_refuseNo_2 : decode cX6_refuseNo 2 = .ok (.getfield 75, 3) := by decide +kernel
theorem dX6_refuseNo_5 : decode cX6_refuseNo 5 = .ok (.iconst 1, 1) := by decide +kernel
theorem dX6_refuseNo_6 : decode cX6_refuseNo 6 = .ok (.iadd, 1) := by decide +kernel
theorem dX6_refuseNo_7 : decode cX6_refuseNo 7 = .ok (.putfield 75, 3) := by decide +kernel
theorem dX6_refuseNo_10 : decode cX6_refuseNo 10 = .ok (.sipush (-1003), 3) := by decide +kernel
theorem dX6_refuseNo_13 : decode cX6_refuseNo 13 = .ok (.ireturn, 1) := by decide +kernel
theorem dX6_refuseFull_0 : decode cX6_refuseFull 0 = .ok (.aload_n 0, 1) := by decide +kernel
theorem dX6_refuseFull_1 : decode cX6_refuseFull 1 = .ok (.dup, 1) := by decide +kernel
theorem dX6_refuseFull_2 : decode cX6_refuseFull 2 = .ok (.getfield 78, 3) := by decide +kernel
theorem dX6_refuseFull_5 : decode cX6_refuseFull 5 = .ok (.iconst 1, 1) := by decide +kernel
theorem dX6_refuseFull_6 : decode cX6_refuseFull 6 = .ok (.iadd, 1) := by decide +kernel
theorem dX6_refuseFull_7 : decode cX6_refuseFull 7 = .ok (.putfield 78, 3) := by decide +kernel
theorem dX6_refuseFull_10 : decode cX6_refuseFull 10 = .ok (.sipush (-1004), 3) := by decide +kernel
theorem dX6_refuseFull_13 : decode cX6_refuseFull 13 = .ok (.ireturn, 1) := by decide +kernel
theorem dX6_noLimb_0 : decode cX6_noLimb 0 = .ok (.iload_n 1, 1) := by decide +kernel
theorem dX6_noLimb_1 : decode cX6_noLimb 1 = .ok (.iconst 0, 1) := by decide +kernel
theorem dX6_noLimb_2 : decode cX6_noLimb 2 = .ok (.aload_n 0, 1) := by decide +kernel
theorem dX6_noLimb_3 : decode cX6_noLimb 3 = .ok (.getfield 10, 3) := by decide +kernel
theorem dX6_noLimb_6 : decode cX6_noLimb 6 = .ok (.getfield 89, 3) := by decide +kernel
theorem dX6_noLimb_9 : decode cX6_noLimb 9 = .ok (.iconst 1, 1) := by decide +kernel
theorem dX6_noLimb_10 : decode cX6_noLimb 10 = .ok (.isub, 1) := by decide +kernel
theorem dX6_noLimb_11 : decode cX6_noLimb 11 = .ok (.invokestatic 81, 3) := by decide +kernel
theorem dX6_noLimb_14 : decode cX6_noLimb 14 = .ok (.ireturn, 1) := by decide +kernel
theorem dX6_notHigh_0 : decode cX6_notHigh 0 = .ok (.iload_n 0, 1) := by decide +kernel
theorem dX6_notHigh_1 : decode cX6_notHigh 1 = .ok (.bipush (-40), 2) := by decide +kernel
theorem dX6_notHigh_3 : decode cX6_notHigh 3 = .ok (.bipush 60, 2) := by decide +kernel
theorem dX6_notHigh_5 : decode cX6_notHigh 5 = .ok (.invokestatic 81, 3) := by decide +kernel
theorem dX6_notHigh_8 : decode cX6_notHigh 8 = .ok (.ireturn, 1) := by decide +kernel
theorem dX6_outside_0 : decode cX6_outside 0 = .ok (.iload_n 0, 1) := by decide +kernel
theorem dX6_outside_1 : decode cX6_outside 1 = .ok (.iload_n 1, 1) := by decide +kernel
theorem dX6_outside_2 : decode cX6_outside 2 = .ok (.if_icmp .lt 8, 3) := by decide +kernel
theorem dX6_outside_5 : decode cX6_outside 5 = .ok (.iload_n 0, 1) := by decide +kernel
theorem dX6_outside_6 : decode cX6_outside 6 = .ok (.iload_n 2, 1) := by decide +kernel
theorem dX6_outside_7 : decode cX6_outside 7 = .ok (.if_icmp .le 7, 3) := by decide +kernel
theorem dX6_outside_10 : decode cX6_outside 10 = .ok (.iconst 1, 1) := by decide +kernel
theorem dX6_outside_11 : decode cX6_outside 11 = .ok (.goto 4, 3) := by decide +kernel
theorem dX6_outside_14 : decode cX6_outside 14 = .ok (.iconst 0, 1) := by decide +kernel
theorem dX6_outside_15 : decode cX6_outside 15 = .ok (.ireturn, 1) := by decide +kernel
theorem dX6_cell_0 : decode cX6_cell 0 = .ok (.iload_n 1, 1) := by decide +kernel
theorem dX6_cell_1 : decode cX6_cell 1 = .ok (.ifCond .lt 15, 3) := by decide +kernel
theorem dX6_cell_4 : decode cX6_cell 4 = .ok (.iload_n 1, 1) := by decide +kernel
theorem dX6_cell_5 : decode cX6_cell 5 = .ok (.aload_n 0, 1) := by decide +kernel
theorem dX6_cell_6 : decode cX6_cell 6 = .ok (.arraylength, 1) := by decide +kernel
theorem dX6_cell_7 : decode cX6_cell 7 = .ok (.if_icmp .ge 9, 3) := by decide +kernel
theorem dX6_cell_10 : decode cX6_cell 10 = .ok (.aload_n 0, 1) := by decide +kernel
theorem dX6_cell_11 : decode cX6_cell 11 = .ok (.iload_n 1, 1) := by decide +kernel
theorem dX6_cell_12 : decode cX6_cell 12 = .ok (.iaload, 1) := by decide +kernel
theorem dX6_cell_13 : decode cX6_cell 13 = .ok (.goto 4, 3) := by decide +kernel
theorem dX6_cell_16 : decode cX6_cell 16 = .ok (.iconst 0, 1) := by decide +kernel
theorem dX6_cell_17 : decode cX6_cell 17 = .ok (.ireturn, 1) := by decide +kernel
theorem dX6_put_0 : decode cX6_put 0 = .ok (.iload_n 1, 1) := by decide +kernel
theorem dX6_put_1 : decode cX6_put 1 = .ok (.ifCond .lt 13, 3) := by decide +kernel
theorem dX6_put_4 : decode cX6_put 4 = .ok (.iload_n 1, 1) := by decide +kernel
theorem dX6_put_5 : decode cX6_put 5 = .ok (.aload_n 0, 1) := by decide +kernel
theorem dX6_put_6 : decode cX6_put 6 = .ok (.arraylength, 1) := by decide +kernel
theorem dX6_put_7 : decode cX6_put 7 = .ok (.if_icmp .ge 7, 3) := by decide +kernel
theorem dX6_put_10 : decode cX6_put 10 = .ok (.aload_n 0, 1) := by decide +kernel
theorem dX6_put_11 : decode cX6_put 11 = .ok (.iload_n 1, 1) := by decide +kernel
theorem dX6_put_12 : decode cX6_put 12 = .ok (.iload_n 2, 1) := by decide +kernel
theorem dX6_put_13 : decode cX6_put 13 = .ok (.iastore, 1) := by decide +kernel
theorem dX6_put_14 : decode cX6_put 14 = .ok (.return_, 1) := by decide +kernel
theorem dX6_copyRow_0 : decode cX6_copyRow 0 = .ok (.iconst 0, 1) := by decide +kernel
theorem dX6_copyRow_1 : decode cX6_copyRow 1 = .ok (.istore_n 2, 1) := by decide +kernel
theorem dX6_copyRow_2 : decode cX6_copyRow 2 = .ok (.iload_n 2, 1) := by decide +kernel
theorem dX6_copyRow_3 : decode cX6_copyRow 3 = .ok (.aload_n 0, 1) := by decide +kernel
theorem dX6_copyRow_4 : decode cX6_copyRow 4 = .ok (.arraylength, 1) := by decide +kernel
theorem dX6_copyRow_5 : decode cX6_copyRow 5 = .ok (.if_icmp .ge 21, 3) := by decide +kernel
theorem dX6_copyRow_8 : decode cX6_copyRow 8 = .ok (.iload_n 2, 1) := by decide +kernel
theorem dX6_copyRow_9 : decode cX6_copyRow 9 = .ok (.aload_n 1, 1) := by decide +kernel
theorem dX6_copyRow_10 : decode cX6_copyRow 10 = .ok (.arraylength, 1) := by decide +kernel
theorem dX6_copyRow_11 : decode cX6_copyRow 11 = .ok (.if_icmp .ge 15, 3) := by decide +kernel
theorem dX6_copyRow_14 : decode cX6_copyRow 14 = .ok (.aload_n 1, 1) := by decide +kernel
theorem dX6_copyRow_15 : decode cX6_copyRow 15 = .ok (.iload_n 2, 1) := by decide +kernel
theorem dX6_copyRow_16 : decode cX6_copyRow 16 = .ok (.aload_n 0, 1) := by decide +kernel
theorem dX6_copyRow_17 : decode cX6_copyRow 17 = .ok (.iload_n 2, 1) := by decide +kernel
theorem dX6_copyRow_18 : decode cX6_copyRow 18 = .ok (.iaload, 1) := by decide +kernel
theorem dX6_copyRow_19 : decode cX6_copyRow 19 = .ok (.iastore, 1) := by decide +kernel
theorem dX6_copyRow_20 : decode cX6_copyRow 20 = .ok (.iinc 2 1, 3) := by decide +kernel
theorem dX6_copyRow_23 : decode cX6_copyRow 23 = .ok (.goto (-21), 3) := by decide +kernel
theorem dX6_copyRow_26 : decode cX6_copyRow 26 = .ok (.return_, 1) := by decide +kernel
theorem dX6_hasBit_0 : decode cX6_hasBit 0 = .ok (.iload_n 0, 1) := by decide +kernel
theorem dX6_hasBit_1 : decode cX6_hasBit 1 = .ok (.iload_n 1, 1) := by decide +kernel
theorem dX6_hasBit_2 : decode cX6_hasBit 2 = .ok (.ishr, 1) := by decide +kernel
theorem dX6_hasBit_3 : decode cX6_hasBit 3 = .ok (.iconst 1, 1) := by decide +kernel
theorem dX6_hasBit_4 : decode cX6_hasBit 4 = .ok (.iand, 1) := by decide +kernel
theorem dX6_hasBit_5 : decode cX6_hasBit 5 = .ok (.iconst 1, 1) := by decide +kernel
theorem dX6_hasBit_6 : decode cX6_hasBit 6 = .ok (.if_icmp .ne 7, 3) := by decide +kernel
theorem dX6_hasBit_9 : decode cX6_hasBit 9 = .ok (.iconst 1, 1) := by decide +kernel
theorem dX6_hasBit_10 : decode cX6_hasBit 10 = .ok (.goto 4, 3) := by decide +kernel
theorem dX6_hasBit_13 : decode cX6_hasBit 13 = .ok (.iconst 0, 1) := by decide +kernel
theorem dX6_hasBit_14 : decode cX6_hasBit 14 = .ok (.ireturn, 1) := by decide +kernel
theorem dX6_leastBit_0 : decode cX6_leastBit 0 = .ok (.iconst 0, 1) := by decide +kernel
theorem dX6_leastBit_1 : decode cX6_leastBit 1 = .ok (.istore_n 1, 1) := by decide +kernel
theorem dX6_leastBit_2 : decode cX6_leastBit 2 = .ok (.iload_n 1, 1) := by decide +kernel
theorem dX6_leastBit_3 : decode cX6_leastBit 3 = .ok (.bipush 31, 2) := by decide +kernel
theorem dX6_leastBit_5 : decode cX6_leastBit 5 = .ok (.if_icmp .ge 17, 3) := by decide +kernel
theorem dX6_leastBit_8 : decode cX6_leastBit 8 = .ok (.iload_n 0, 1) := by decide +kernel
theorem dX6_leastBit_9 : decode cX6_leastBit 9 = .ok (.iload_n 1, 1) := by decide +kernel
theorem dX6_leastBit_10 : decode cX6_leastBit 10 = .ok (.invokestatic 308, 3) := by decide +kernel
theorem dX6_leastBit_13 : decode cX6_leastBit 13 = .ok (.ifCond .ne 9, 3) := by decide +kernel
theorem dX6_leastBit_16 : decode cX6_leastBit 16 = .ok (.iinc 1 1, 3) := by decide +kernel
theorem dX6_leastBit_19 : decode cX6_leastBit 19 = .ok (.goto (-17), 3) := by decide +kernel
theorem dX6_leastBit_22 : decode cX6_leastBit 22 = .ok (.iload_n 1, 1) := by decide +kernel
theorem dX6_leastBit_23 : decode cX6_leastBit 23 = .ok (.ireturn, 1) := by decide +kernel
theorem dX6_greatestBit_0 : decode cX6_greatestBit 0 = .ok (.bipush 31, 2) := by decide +kernel
theorem dX6_greatestBit_2 : decode cX6_greatestBit 2 = .ok (.istore_n 1, 1) := by decide +kernel
theorem dX6_greatestBit_3 : decode cX6_greatestBit 3 = .ok (.iload_n 1, 1) := by decide +kernel
theorem dX6_greatestBit_4 : decode cX6_greatestBit 4 = .ok (.ifCond .le 17, 3) := by decide +kernel
theorem dX6_greatestBit_7 : decode cX6_greatestBit 7 = .ok (.iload_n 0, 1) := by decide +kernel
theorem dX6_greatestBit_8 : decode cX6_greatestBit 8 = .ok (.iload_n 1, 1) := by decide +kernel
theorem dX6_greatestBit_9 : decode cX6_greatestBit 9 = .ok (.invokestatic 308, 3) := by decide +kernel
theorem dX6_greatestBit_12 : decode cX6_greatestBit 12 = .ok (.ifCond .ne 9, 3) := by decide +kernel
theorem dX6_greatestBit_15 : decode cX6_greatestBit 15 = .ok (.iinc 1 (-1), 3) := by decide +kernel
theorem dX6_greatestBit_18 : decode cX6_greatestBit 18 = .ok (.goto (-15), 3) := by decide +kernel
theorem dX6_greatestBit_21 : decode cX6_greatestBit 21 = .ok (.iload_n 1, 1) := by decide +kernel
theorem dX6_greatestBit_22 : decode cX6_greatestBit 22 = .ok (.ireturn, 1) := by decide +kernel
theorem dX6_mostAlike_0 : decode cX6_mostAlike 0 = .ok (.iconst 0, 1) := by decide +kernel
theorem dX6_mostAlike_1 : decode cX6_mostAlike 1 = .ok (.istore_n 2, 1) := by decide +kernel
theorem dX6_mostAlike_2 : decode cX6_mostAlike 2 = .ok (.iconst 0, 1) := by decide +kernel
theorem dX6_mostAlike_3 : decode cX6_mostAlike 3 = .ok (.istore_n 3, 1) := by decide +kernel
theorem dX6_mostAlike_4 : decode cX6_mostAlike 4 = .ok (.iload_n 3, 1) := by decide +kernel
theorem dX6_mostAlike_5 : decode cX6_mostAlike 5 = .ok (.iload_n 1, 1) := by decide +kernel
theorem dX6_mostAlike_6 : decode cX6_mostAlike 6 = .ok (.if_icmp .ge 60, 3) := by decide +kernel
theorem dX6_mostAlike_9 : decode cX6_mostAlike 9 = .ok (.iload_n 3, 1) := by decide +kernel
theorem dX6_mostAlike_10 : decode cX6_mostAlike 10 = .ok (.aload_n 0, 1) := by decide +kernel
theorem dX6_mostAlike_11 : decode cX6_mostAlike 11 = .ok (.arraylength, 1) := by decide +kernel
theorem dX6_mostAlike_12 : decode cX6_mostAlike 12 = .ok (.if_icmp .ge 54, 3) := by decide +kernel
theorem dX6_mostAlike_15 : decode cX6_mostAlike 15 = .ok (.iconst 0, 1) := by decide +kernel
theorem dX6_mostAlike_16 : decode cX6_mostAlike 16 = .ok (.istore 4, 2) := by decide +kernel
theorem dX6_mostAlike_18 : decode cX6_mostAlike 18 = .ok (.iconst 0, 1) := by decide +kernel
theorem dX6_mostAlike_19 : decode cX6_mostAlike 19 = .ok (.istore 5, 2) := by decide +kernel
theorem dX6_mostAlike_21 : decode cX6_mostAlike 21 = .ok (.iload 5, 2) := by decide +kernel
theorem dX6_mostAlike_23 : decode cX6_mostAlike 23 = .ok (.iload_n 1, 1) := by decide +kernel
theorem dX6_mostAlike_24 : decode cX6_mostAlike 24 = .ok (.if_icmp .ge 29, 3) := by decide +kernel
theorem dX6_mostAlike_27 : decode cX6_mostAlike 27 = .ok (.iload 5, 2) := by decide +kernel
theorem dX6_mostAlike_29 : decode cX6_mostAlike 29 = .ok (.aload_n 0, 1) := by decide +kernel
theorem dX6_mostAlike_30 : decode cX6_mostAlike 30 = .ok (.arraylength, 1) := by decide +kernel
theorem dX6_mostAlike_31 : decode cX6_mostAlike 31 = .ok (.if_icmp .ge 22, 3) := by decide +kernel
theorem dX6_mostAlike_34 : decode cX6_mostAlike 34 = .ok (.aload_n 0, 1) := by decide +kernel
theorem dX6_mostAlike_35 : decode cX6_mostAlike 35 = .ok (.iload_n 3, 1) := by decide +kernel
theorem dX6_mostAlike_36 : decode cX6_mostAlike 36 = .ok (.iaload, 1) := by decide +kernel
theorem dX6_mostAlike_37 : decode cX6_mostAlike 37 = .ok (.aload_n 0, 1) := by decide +kernel
theorem dX6_mostAlike_38 : decode cX6_mostAlike 38 = .ok (.iload 5, 2) := by decide +kernel
theorem dX6_mostAlike_40 : decode cX6_mostAlike 40 = .ok (.iaload, 1) := by decide +kernel
theorem dX6_mostAlike_41 : decode cX6_mostAlike 41 = .ok (.if_icmp .ne 6, 3) := by decide +kernel
theorem dX6_mostAlike_44 : decode cX6_mostAlike 44 = .ok (.iinc 4 1, 3) := by decide +kernel
theorem dX6_mostAlike_47 : decode cX6_mostAlike 47 = .ok (.iinc 5 1, 3) := by decide +kernel
theorem dX6_mostAlike_50 : decode cX6_mostAlike 50 = .ok (.goto (-29), 3) := by decide +kernel
theorem dX6_mostAlike_53 : decode cX6_mostAlike 53 = .ok (.iload_n 2, 1) := by decide +kernel
theorem dX6_mostAlike_54 : decode cX6_mostAlike 54 = .ok (.iload 4, 2) := by decide +kernel
theorem dX6_mostAlike_56 : decode cX6_mostAlike 56 = .ok (.invokestatic 311, 3) := by decide +kernel
theorem dX6_mostAlike_59 : decode cX6_mostAlike 59 = .ok (.istore_n 2, 1) := by decide +kernel
theorem dX6_mostAlike_60 : decode cX6_mostAlike 60 = .ok (.iinc 3 1, 3) := by decide +kernel
theorem dX6_mostAlike_63 : decode cX6_mostAlike 63 = .ok (.goto (-59), 3) := by decide +kernel
theorem dX6_mostAlike_66 : decode cX6_mostAlike 66 = .ok (.iload_n 2, 1) := by decide +kernel
theorem dX6_mostAlike_67 : decode cX6_mostAlike 67 = .ok (.ireturn, 1) := by decide +kernel
theorem dX6_dropOf_0 : decode cX6_dropOf 0 = .ok (.iload_n 1, 1) := by decide +kernel
theorem dX6_dropOf_1 : decode cX6_dropOf 1 = .ok (.iload_n 2, 1) := by decide +kernel
theorem dX6_dropOf_2 : decode cX6_dropOf 2 = .ok (.iconst 3, 1) := by decide +kernel
theorem dX6_dropOf_3 : decode cX6_dropOf 3 = .ok (.idiv, 1) := by decide +kernel
theorem dX6_dropOf_4 : decode cX6_dropOf 4 = .ok (.iadd, 1) := by decide +kernel
theorem dX6_dropOf_5 : decode cX6_dropOf 5 = .ok (.istore 4, 2) := by decide +kernel
theorem dX6_dropOf_7 : decode cX6_dropOf 7 = .ok (.iload_n 1, 1) := by decide +kernel
theorem dX6_dropOf_8 : decode cX6_dropOf 8 = .ok (.iload_n 2, 1) := by decide +kernel
theorem dX6_dropOf_9 : decode cX6_dropOf 9 = .ok (.iadd, 1) := by decide +kernel
theorem dX6_dropOf_10 : decode cX6_dropOf 10 = .ok (.istore 5, 2) := by decide +kernel
theorem dX6_dropOf_12 : decode cX6_dropOf 12 = .ok (.iload_n 0, 1) := by decide +kernel
theorem dX6_dropOf_13 : decode cX6_dropOf 13 = .ok (.tableswitch 72 1 5 #[35, 38, 41, 55, 63], 35) := by decide +kernel
theorem dX6_dropOf_48 : decode cX6_dropOf 48 = .ok (.iload 4, 2) := by decide +kernel
theorem dX6_dropOf_50 : decode cX6_dropOf 50 = .ok (.ireturn, 1) := by decide +kernel
theorem dX6_dropOf_51 : decode cX6_dropOf 51 = .ok (.iload 5, 2) := by decide +kernel
theorem dX6_dropOf_53 : decode cX6_dropOf 53 = .ok (.ireturn, 1) := by decide +kernel
theorem dX6_dropOf_54 : decode cX6_dropOf 54 = .ok (.iload_n 1, 1) := by decide +kernel
theorem dX6_dropOf_55 : decode cX6_dropOf 55 = .ok (.iconst 2, 1) := by decide +kernel
theorem dX6_dropOf_56 : decode cX6_dropOf 56 = .ok (.irem, 1) := by decide +kernel
theorem dX6_dropOf_57 : decode cX6_dropOf 57 = .ok (.ifCond .ne 9, 3) := by decide +kernel
theorem dX6_dropOf_60 : decode cX6_dropOf 60 = .ok (.iload_n 1, 1) := by decide +kernel
theorem dX6_dropOf_61 : decode cX6_dropOf 61 = .ok (.iconst 1, 1) := by decide +kernel
theorem dX6_dropOf_62 : decode cX6_dropOf 62 = .ok (.isub, 1) := by decide +kernel
theorem dX6_dropOf_63 : decode cX6_dropOf 63 = .ok (.goto 4, 3) := by decide +kernel
theorem dX6_dropOf_66 : decode cX6_dropOf 66 = .ok (.iload_n 1, 1) := by decide +kernel
theorem dX6_dropOf_67 : decode cX6_dropOf 67 = .ok (.ireturn, 1) := by decide +kernel
theorem dX6_dropOf_68 : decode cX6_dropOf 68 = .ok (.iload 4, 2) := by decide +kernel
theorem dX6_dropOf_70 : decode cX6_dropOf 70 = .ok (.iload_n 3, 1) := by decide +kernel
theorem dX6_dropOf_71 : decode cX6_dropOf 71 = .ok (.bipush 10, 2) := by decide +kernel
theorem dX6_dropOf_73 : decode cX6_dropOf 73 = .ok (.idiv, 1) := by decide +kernel
theorem dX6_dropOf_74 : decode cX6_dropOf 74 = .ok (.iadd, 1) := by decide +kernel
theorem dX6_dropOf_75 : decode cX6_dropOf 75 = .ok (.ireturn, 1) := by decide +kernel
theorem dX6_dropOf_76 : decode cX6_dropOf 76 = .ok (.iload 5, 2) := by decide +kernel
theorem dX6_dropOf_78 : decode cX6_dropOf 78 = .ok (.iconst 2, 1) := by decide +kernel
theorem dX6_dropOf_79 : decode cX6_dropOf 79 = .ok (.iload_n 1, 1) := by decide +kernel
theorem dX6_dropOf_80 : decode cX6_dropOf 80 = .ok (.imul, 1) := by decide +kernel
theorem dX6_dropOf_81 : decode cX6_dropOf 81 = .ok (.invokestatic 316, 3) := by decide +kernel
theorem dX6_dropOf_84 : decode cX6_dropOf 84 = .ok (.ireturn, 1) := by decide +kernel
theorem dX6_dropOf_85 : decode cX6_dropOf 85 = .ok (.iload_n 1, 1) := by decide +kernel
theorem dX6_dropOf_86 : decode cX6_dropOf 86 = .ok (.ireturn, 1) := by decide +kernel
theorem dX6_highOf_0 : decode cX6_highOf 0 = .ok (.iload_n 1, 1) := by decide +kernel
theorem dX6_highOf_1 : decode cX6_highOf 1 = .ok (.iconst 2, 1) := by decide +kernel
theorem dX6_highOf_2 : decode cX6_highOf 2 = .ok (.invokestatic 311, 3) := by decide +kernel
theorem dX6_highOf_5 : decode cX6_highOf 5 = .ok (.istore_n 3, 1) := by decide +kernel
theorem dX6_highOf_6 : decode cX6_highOf 6 = .ok (.iconst 0, 1) := by decide +kernel
theorem dX6_highOf_7 : decode cX6_highOf 7 = .ok (.iload_n 1, 1) := by decide +kernel
theorem dX6_highOf_8 : decode cX6_highOf 8 = .ok (.bipush 9, 2) := by decide +kernel
theorem dX6_highOf_10 : decode cX6_highOf 10 = .ok (.invokestatic 316, 3) := by decide +kernel
theorem dX6_highOf_13 : decode cX6_highOf 13 = .ok (.invokestatic 311, 3) := by decide +kernel
theorem dX6_highOf_16 : decode cX6_highOf 16 = .ok (.istore 4, 2) := by decide +kernel
theorem dX6_highOf_18 : decode cX6_highOf 18 = .ok (.iload_n 0, 1) := by decide +kernel
theorem dX6_highOf_19 : decode cX6_highOf 19 = .ok (.tableswitch 61 1 5 #[33, 35, 38, 43, 57], 33) := by decide +kernel
theorem dX6_highOf_52 : decode cX6_highOf 52 = .ok (.iload_n 3, 1) := by decide +kernel
theorem dX6_highOf_53 : decode cX6_highOf 53 = .ok (.ireturn, 1) := by decide +kernel
theorem dX6_highOf_54 : decode cX6_highOf 54 = .ok (.iload 4, 2) := by decide +kernel
theorem dX6_highOf_56 : decode cX6_highOf 56 = .ok (.ireturn, 1) := by decide +kernel
theorem dX6_highOf_57 : decode cX6_highOf 57 = .ok (.iload 4, 2) := by decide +kernel
theorem dX6_highOf_59 : decode cX6_highOf 59 = .ok (.iconst 2, 1) := by decide +kernel
theorem dX6_highOf_60 : decode cX6_highOf 60 = .ok (.idiv, 1) := by decide +kernel
theorem dX6_highOf_61 : decode cX6_highOf 61 = .ok (.ireturn, 1) := by decide +kernel
theorem dX6_highOf_62 : decode cX6_highOf 62 = .ok (.iload_n 2, 1) := by decide +kernel
theorem dX6_highOf_63 : decode cX6_highOf 63 = .ok (.iconst 2, 1) := by decide +kernel
theorem dX6_highOf_64 : decode cX6_highOf 64 = .ok (.irem, 1) := by decide +kernel
theorem dX6_highOf_65 : decode cX6_highOf 65 = .ok (.ifCond .ne 7, 3) := by decide +kernel
theorem dX6_highOf_68 : decode cX6_highOf 68 = .ok (.iload_n 1, 1) := by decide +kernel
theorem dX6_highOf_69 : decode cX6_highOf 69 = .ok (.goto 6, 3) := by decide +kernel
theorem dX6_highOf_72 : decode cX6_highOf 72 = .ok (.iload_n 1, 1) := by decide +kernel
theorem dX6_highOf_73 : decode cX6_highOf 73 = .ok (.iconst 1, 1) := by decide +kernel
theorem dX6_highOf_74 : decode cX6_highOf 74 = .ok (.isub, 1) := by decide +kernel
theorem dX6_highOf_75 : decode cX6_highOf 75 = .ok (.ireturn, 1) := by decide +kernel
theorem dX6_highOf_76 : decode cX6_highOf 76 = .ok (.iload_n 3, 1) := by decide +kernel
theorem dX6_highOf_77 : decode cX6_highOf 77 = .ok (.iconst 3, 1) := by decide +kernel
theorem dX6_highOf_78 : decode cX6_highOf 78 = .ok (.iadd, 1) := by decide +kernel
theorem dX6_highOf_79 : decode cX6_highOf 79 = .ok (.ireturn, 1) := by decide +kernel
theorem dX6_highOf_80 : decode cX6_highOf 80 = .ok (.iload_n 1, 1) := by decide +kernel
theorem dX6_highOf_81 : decode cX6_highOf 81 = .ok (.ireturn, 1) := by decide +kernel
theorem dX6_liftBehind_0 : decode cX6_liftBehind 0 = .ok (.iload_n 1, 1) := by decide +kernel
theorem dX6_liftBehind_1 : decode cX6_liftBehind 1 = .ok (.ifCond .ne 12, 3) := by decide +kernel
theorem dX6_liftBehind_4 : decode cX6_liftBehind 4 = .ok (.iload_n 0, 1) := by decide +kernel
theorem dX6_liftBehind_5 : decode cX6_liftBehind 5 = .ok (.iconst 3, 1) := by decide +kernel
theorem dX6_liftBehind_6 : decode cX6_liftBehind 6 = .ok (.iadd, 1) := by decide +kernel
theorem dX6_liftBehind_7 : decode cX6_liftBehind 7 = .ok (.bipush 40, 2) := by decide +kernel
theorem dX6_liftBehind_9 : decode cX6_liftBehind 9 = .ok (.invokestatic 316, 3) := by decide +kernel
theorem dX6_liftBehind_12 : decode cX6_liftBehind 12 = .ok (.ireturn, 1) := by decide +kernel
theorem dX6_liftBehind_13 : decode cX6_liftBehind 13 = .ok (.iload_n 1, 1) := by decide +kernel
theorem dX6_liftBehind_14 : decode cX6_liftBehind 14 = .ok (.iconst 1, 1) := by decide +kernel
theorem dX6_liftBehind_15 : decode cX6_liftBehind 15 = .ok (.if_icmp .ne 13, 3) := by decide +kernel
theorem dX6_liftBehind_18 : decode cX6_liftBehind 18 = .ok (.iload_n 0, 1) := by decide +kernel
theorem dX6_liftBehind_19 : decode cX6_liftBehind 19 = .ok (.iconst 3, 1) := by decide +kernel
theorem dX6_liftBehind_20 : decode cX6_liftBehind 20 = .ok (.isub, 1) := by decide +kernel
theorem dX6_liftBehind_21 : decode cX6_liftBehind 21 = .ok (.iconst 0, 1) := by decide +kernel
theorem dX6_liftBehind_22 : decode cX6_liftBehind 22 = .ok (.invokestatic 311, 3) := by decide +kernel
theorem dX6_liftBehind_25 : decode cX6_liftBehind 25 = .ok (.goto 4, 3) := by decide +kernel
theorem dX6_liftBehind_28 : decode cX6_liftBehind 28 = .ok (.iload_n 0, 1) := by decide +kernel
theorem dX6_liftBehind_29 : decode cX6_liftBehind 29 = .ok (.ireturn, 1) := by decide +kernel
theorem dX6_tiltBehind_0 : decode cX6_tiltBehind 0 = .ok (.iload_n 1, 1) := by decide +kernel
theorem dX6_tiltBehind_1 : decode cX6_tiltBehind 1 = .ok (.iconst 2, 1) := by decide +kernel
theorem dX6_tiltBehind_2 : decode cX6_tiltBehind 2 = .ok (.if_icmp .ne 12, 3) := by decide +kernel
theorem dX6_tiltBehind_5 : decode cX6_tiltBehind 5 = .ok (.iload_n 0, 1) := by decide +kernel
theorem dX6_tiltBehind_6 : decode cX6_tiltBehind 6 = .ok (.iconst 1, 1) := by decide +kernel
theorem dX6_tiltBehind_7 : decode cX6_tiltBehind 7 = .ok (.isub, 1) := by decide +kernel
theorem dX6_tiltBehind_8 : decode cX6_tiltBehind 8 = .ok (.bipush (-4), 2) := by decide +kernel
theorem dX6_tiltBehind_10 : decode cX6_tiltBehind 10 = .ok (.invokestatic 311, 3) := by decide +kernel
theorem dX6_tiltBehind_13 : decode cX6_tiltBehind 13 = .ok (.ireturn, 1) := by decide +kernel
theorem dX6_tiltBehind_14 : decode cX6_tiltBehind 14 = .ok (.iload_n 1, 1) := by decide +kernel
theorem dX6_tiltBehind_15 : decode cX6_tiltBehind 15 = .ok (.iconst 3, 1) := by decide +kernel
theorem dX6_tiltBehind_16 : decode cX6_tiltBehind 16 = .ok (.if_icmp .ne 13, 3) := by decide +kernel
theorem dX6_tiltBehind_19 : decode cX6_tiltBehind 19 = .ok (.iload_n 0, 1) := by decide +kernel
theorem dX6_tiltBehind_20 : decode cX6_tiltBehind 20 = .ok (.iconst 1, 1) := by decide +kernel
theorem dX6_tiltBehind_21 : decode cX6_tiltBehind 21 = .ok (.iadd, 1) := by decide +kernel
theorem dX6_tiltBehind_22 : decode cX6_tiltBehind 22 = .ok (.iconst 4, 1) := by decide +kernel
theorem dX6_tiltBehind_23 : decode cX6_tiltBehind 23 = .ok (.invokestatic 316, 3) := by decide +kernel
theorem dX6_tiltBehind_26 : decode cX6_tiltBehind 26 = .ok (.goto 4, 3) := by decide +kernel
theorem dX6_tiltBehind_29 : decode cX6_tiltBehind 29 = .ok (.iload_n 0, 1) := by decide +kernel
theorem dX6_tiltBehind_30 : decode cX6_tiltBehind 30 = .ok (.ireturn, 1) := by decide +kernel
theorem dX6_wornBehind_0 : decode cX6_wornBehind 0 = .ok (.iload_n 2, 1) := by decide +kernel
theorem dX6_wornBehind_1 : decode cX6_wornBehind 1 = .ok (.iconst 4, 1) := by decide +kernel
theorem dX6_wornBehind_2 : decode cX6_wornBehind 2 = .ok (.if_icmp .eq 9, 3) := by decide +kernel
theorem dX6_wornBehind_5 : decode cX6_wornBehind 5 = .ok (.iload_n 2, 1) := by decide +kernel
theorem dX6_wornBehind_6 : decode cX6_wornBehind 6 = .ok (.bipush (-4), 2) := by decide +kernel
theorem dX6_wornBehind_8 : decode cX6_wornBehind 8 = .ok (.if_icmp .ne 7, 3) := by decide +kernel
theorem dX6_wornBehind_11 : decode cX6_wornBehind 11 = .ok (.iconst 1, 1) := by decide +kernel
theorem dX6_wornBehind_12 : decode cX6_wornBehind 12 = .ok (.goto 4, 3) := by decide +kernel
theorem dX6_wornBehind_15 : decode cX6_wornBehind 15 = .ok (.iconst 0, 1) := by decide +kernel
theorem dX6_wornBehind_16 : decode cX6_wornBehind 16 = .ok (.istore_n 3, 1) := by decide +kernel
theorem dX6_wornBehind_17 : decode cX6_wornBehind 17 = .ok (.iload_n 0, 1) := by decide +kernel
theorem dX6_wornBehind_18 : decode cX6_wornBehind 18 = .ok (.iload_n 3, 1) := by decide +kernel
theorem dX6_wornBehind_19 : decode cX6_wornBehind 19 = .ok (.ifCond .eq 9, 3) := by decide +kernel
theorem dX6_wornBehind_22 : decode cX6_wornBehind 22 = .ok (.iconst 2, 1) := by decide +kernel
theorem dX6_wornBehind_23 : decode cX6_wornBehind 23 = .ok (.iload_n 1, 1) := by decide +kernel
theorem dX6_wornBehind_24 : decode cX6_wornBehind 24 = .ok (.imul, 1) := by decide +kernel
theorem dX6_wornBehind_25 : decode cX6_wornBehind 25 = .ok (.goto 4, 3) := by decide +kernel
theorem dX6_wornBehind_28 : decode cX6_wornBehind 28 = .ok (.iload_n 1, 1) := by decide +kernel
theorem dX6_wornBehind_29 : decode cX6_wornBehind 29 = .ok (.iadd, 1) := by decide +kernel
theorem dX6_wornBehind_30 : decode cX6_wornBehind 30 = .ok (.bipush 99, 2) := by decide +kernel
theorem dX6_wornBehind_32 : decode cX6_wornBehind 32 = .ok (.invokestatic 316, 3) := by decide +kernel
theorem dX6_wornBehind_35 : decode cX6_wornBehind 35 = .ok (.ireturn, 1) := by decide +kernel
theorem dX6_isSnapped_0 : decode cX6_isSnapped 0 = .ok (.iload_n 0, 1) := by decide +kernel
theorem dX6_isSnapped_1 : decode cX6_isSnapped 1 = .ok (.bipush 99, 2) := by decide +kernel
theorem dX6_isSnapped_3 : decode cX6_isSnapped 3 = .ok (.if_icmp .lt 7, 3) := by decide +kernel
theorem dX6_isSnapped_6 : decode cX6_isSnapped 6 = .ok (.iconst 1, 1) := by decide +kernel
theorem dX6_isSnapped_7 : decode cX6_isSnapped 7 = .ok (.goto 4, 3) := by decide +kernel
theorem dX6_isSnapped_10 : decode cX6_isSnapped 10 = .ok (.iconst 0, 1) := by decide +kernel
theorem dX6_isSnapped_11 : decode cX6_isSnapped 11 = .ok (.ireturn, 1) := by decide +kernel
theorem dX6_counted_0 : decode cX6_counted 0 = .ok (.iload_n 1, 1) := by decide +kernel
theorem dX6_counted_1 : decode cX6_counted 1 = .ok (.tableswitch 160 0 9 #[55, 63, 78, 89, 100, 111, 119, 130, 141, 152], 55) := by decide +kernel
theorem dX6_counted_56 : decode cX6_counted 56 = .ok (.aload_n 0, 1) := by decide +kernel
theorem dX6_counted_57 : decode cX6_counted 57 = .ok (.getfield 10, 3) := by decide +kernel
theorem dX6_counted_60 : decode cX6_counted 60 = .ok (.getfield 89, 3) := by decide +kernel
theorem dX6_counted_63 : decode cX6_counted 63 = .ok (.ireturn, 1) := by decide +kernel
theorem dX6_counted_64 : decode cX6_counted 64 = .ok (.aload_n 0, 1) := by decide +kernel
theorem dX6_counted_65 : decode cX6_counted 65 = .ok (.getfield 10, 3) := by decide +kernel
theorem dX6_counted_68 : decode cX6_counted 68 = .ok (.aload_n 0, 1) := by decide +kernel
theorem dX6_counted_69 : decode cX6_counted 69 = .ok (.getfield 10, 3) := by decide +kernel
theorem dX6_counted_72 : decode cX6_counted 72 = .ok (.getfield 118, 3) := by decide +kernel
theorem dX6_counted_75 : decode cX6_counted 75 = .ok (.invokevirtual 134, 3) := by decide +kernel
theorem dX6_counted_78 : decode cX6_counted 78 = .ok (.ireturn, 1) := by decide +kernel
theorem dX6_counted_79 : decode cX6_counted 79 = .ok (.aload_n 0, 1) := by decide +kernel
theorem dX6_counted_80 : decode cX6_counted 80 = .ok (.getfield 10, 3) := by decide +kernel
theorem dX6_counted_83 : decode cX6_counted 83 = .ok (.getfield 118, 3) := by decide +kernel
theorem dX6_counted_86 : decode cX6_counted 86 = .ok (.getfield 319, 3) := by decide +kernel
theorem dX6_counted_89 : decode cX6_counted 89 = .ok (.ireturn, 1) := by decide +kernel
theorem dX6_counted_90 : decode cX6_counted 90 = .ok (.aload_n 0, 1) := by decide +kernel
theorem dX6_counted_91 : decode cX6_counted 91 = .ok (.getfield 10, 3) := by decide +kernel
theorem dX6_counted_94 : decode cX6_counted 94 = .ok (.getfield 118, 3) := by decide +kernel
theorem dX6_counted_97 : decode cX6_counted 97 = .ok (.getfield 178, 3) := by decide +kernel
theorem dX6_counted_100 : decode cX6_counted 100 = .ok (.ireturn, 1) := by decide +kernel
theorem dX6_counted_101 : decode cX6_counted 101 = .ok (.aload_n 0, 1) := by decide +kernel
theorem dX6_counted_102 : decode cX6_counted 102 = .ok (.getfield 10, 3) := by decide +kernel
theorem dX6_counted_105 : decode cX6_counted 105 = .ok (.getfield 118, 3) := by decide +kernel
theorem dX6_counted_108 : decode cX6_counted 108 = .ok (.getfield 121, 3) := by decide +kernel
theorem dX6_counted_111 : decode cX6_counted 111 = .ok (.ireturn, 1) := by decide +kernel
theorem dX6_counted_112 : decode cX6_counted 112 = .ok (.aload_n 0, 1) := by decide +kernel
theorem dX6_counted_113 : decode cX6_counted 113 = .ok (.getfield 10, 3) := by decide +kernel
theorem dX6_counted_116 : decode cX6_counted 116 = .ok (.invokevirtual 322, 3) := by decide +kernel
theorem dX6_counted_119 : decode cX6_counted 119 = .ok (.ireturn, 1) := by decide +kernel
theorem dX6_counted_120 : decode cX6_counted 120 = .ok (.aload_n 0, 1) := by decide +kernel
theorem dX6_counted_121 : decode cX6_counted 121 = .ok (.getfield 10, 3) := by decide +kernel
theorem dX6_counted_124 : decode cX6_counted 124 = .ok (.getfield 218, 3) := by decide +kernel
theorem dX6_counted_127 : decode cX6_counted 127 = .ok (.getfield 325, 3) := by decide +kernel
theorem dX6_counted_130 : decode cX6_counted 130 = .ok (.ireturn, 1) := by decide +kernel
theorem dX6_counted_131 : decode cX6_counted 131 = .ok (.aload_n 0, 1) := by decide +kernel
theorem dX6_counted_132 : decode cX6_counted 132 = .ok (.getfield 10, 3) := by decide +kernel
theorem dX6_counted_135 : decode cX6_counted 135 = .ok (.getfield 247, 3) := by decide +kernel
theorem dX6_counted_138 : decode cX6_counted 138 = .ok (.getfield 325, 3) := by decide +kernel
theorem dX6_counted_141 : decode cX6_counted 141 = .ok (.ireturn, 1) := by decide +kernel
theorem dX6_counted_142 : decode cX6_counted 142 = .ok (.aload_n 0, 1) := by decide +kernel
theorem dX6_counted_143 : decode cX6_counted 143 = .ok (.getfield 10, 3) := by decide +kernel
theorem dX6_counted_146 : decode cX6_counted 146 = .ok (.getfield 250, 3) := by decide +kernel
theorem dX6_counted_149 : decode cX6_counted 149 = .ok (.getfield 325, 3) := by decide +kernel
theorem dX6_counted_152 : decode cX6_counted 152 = .ok (.ireturn, 1) := by decide +kernel
theorem dX6_counted_153 : decode cX6_counted 153 = .ok (.aload_n 0, 1) := by decide +kernel
theorem dX6_counted_154 : decode cX6_counted 154 = .ok (.getfield 10, 3) := by decide +kernel
theorem dX6_counted_157 : decode cX6_counted 157 = .ok (.getfield 161, 3) := by decide +kernel
theorem dX6_counted_160 : decode cX6_counted 160 = .ok (.ireturn, 1) := by decide +kernel
theorem dX6_counted_161 : decode cX6_counted 161 = .ok (.aload_n 0, 1) := by decide +kernel
theorem dX6_counted_162 : decode cX6_counted 162 = .ok (.getfield 35, 3) := by decide +kernel
theorem dX6_counted_165 : decode cX6_counted 165 = .ok (.getfield 104, 3) := by decide +kernel
theorem dX6_counted_168 : decode cX6_counted 168 = .ok (.ireturn, 1) := by decide +kernel
theorem dX6_touching_0 : decode cX6_touching 0 = .ok (.aload_n 0, 1) := by decide +kernel
theorem dX6_touching_1 : decode cX6_touching 1 = .ok (.getfield 10, 3) := by decide +kernel
theorem dX6_touching_4 : decode cX6_touching 4 = .ok (.iload_n 1, 1) := by decide +kernel
theorem dX6_touching_5 : decode cX6_touching 5 = .ok (.invokevirtual 142, 3) := by decide +kernel
theorem dX6_touching_8 : decode cX6_touching 8 = .ok (.invokestatic 145, 3) := by decide +kernel
theorem dX6_touching_11 : decode cX6_touching 11 = .ok (.ifCond .ne 54, 3) := by decide +kernel
theorem dX6_touching_14 : decode cX6_touching 14 = .ok (.aload_n 0, 1) := by decide +kernel
theorem dX6_touching_15 : decode cX6_touching 15 = .ok (.getfield 10, 3) := by decide +kernel
theorem dX6_touching_18 : decode cX6_touching 18 = .ok (.iload_n 2, 1) := by decide +kernel
theorem dX6_touching_19 : decode cX6_touching 19 = .ok (.invokevirtual 142, 3) := by decide +kernel
theorem dX6_touching_22 : decode cX6_touching 22 = .ok (.invokestatic 145, 3) := by decide +kernel
theorem dX6_touching_25 : decode cX6_touching 25 = .ok (.ifCond .ne 40, 3) := by decide +kernel
theorem dX6_touching_28 : decode cX6_touching 28 = .ok (.aload_n 0, 1) := by decide +kernel
theorem dX6_touching_29 : decode cX6_touching 29 = .ok (.getfield 10, 3) := by decide +kernel
theorem dX6_touching_32 : decode cX6_touching 32 = .ok (.aload_n 0, 1) := by decide +kernel
theorem dX6_touching_33 : decode cX6_touching 33 = .ok (.getfield 10, 3) := by decide +kernel
theorem dX6_touching_36 : decode cX6_touching 36 = .ok (.getfield 118, 3) := by decide +kernel
theorem dX6_touching_39 : decode cX6_touching 39 = .ok (.iload_n 1, 1) := by decide +kernel
theorem dX6_touching_40 : decode cX6_touching 40 = .ok (.invokevirtual 214, 3) := by decide +kernel
theorem dX6_touching_43 : decode cX6_touching 43 = .ok (.aload_n 0, 1) := by decide +kernel
theorem dX6_touching_44 : decode cX6_touching 44 = .ok (.getfield 10, 3) := by decide +kernel
theorem dX6_touching_47 : decode cX6_touching 47 = .ok (.aload_n 0, 1) := by decide +kernel
theorem dX6_touching_48 : decode cX6_touching 48 = .ok (.getfield 10, 3) := by decide +kernel
theorem dX6_touching_51 : decode cX6_touching 51 = .ok (.getfield 118, 3) := by decide +kernel
theorem dX6_touching_54 : decode cX6_touching 54 = .ok (.iload_n 2, 1) := by decide +kernel
theorem dX6_touching_55 : decode cX6_touching 55 = .ok (.invokevirtual 214, 3) := by decide +kernel
theorem dX6_touching_58 : decode cX6_touching 58 = .ok (.if_icmp .ne 7, 3) := by decide +kernel
theorem dX6_touching_61 : decode cX6_touching 61 = .ok (.iconst 1, 1) := by decide +kernel
theorem dX6_touching_62 : decode cX6_touching 62 = .ok (.goto 4, 3) := by decide +kernel
theorem dX6_touching_65 : decode cX6_touching 65 = .ok (.iconst 0, 1) := by decide +kernel
theorem dX6_touching_66 : decode cX6_touching 66 = .ok (.ireturn, 1) := by decide +kernel
theorem dX6_farFrom_0 : decode cX6_farFrom 0 = .ok (.aload_n 0, 1) := by decide +kernel
theorem dX6_farFrom_1 : decode cX6_farFrom 1 = .ok (.getfield 10, 3) := by decide +kernel
theorem dX6_farFrom_4 : decode cX6_farFrom 4 = .ok (.getfield 118, 3) := by decide +kernel
theorem dX6_farFrom_7 : decode cX6_farFrom 7 = .ok (.getfield 319, 3) := by decide +kernel
theorem dX6_farFrom_10 : decode cX6_farFrom 10 = .ok (.aload_n 0, 1) := by decide +kernel
theorem dX6_farFrom_11 : decode cX6_farFrom 11 = .ok (.getfield 10, 3) := by decide +kernel
theorem dX6_farFrom_14 : decode cX6_farFrom 14 = .ok (.getfield 118, 3) := by decide +kernel
theorem dX6_farFrom_17 : decode cX6_farFrom 17 = .ok (.getfield 178, 3) := by decide +kernel
theorem dX6_farFrom_20 : decode cX6_farFrom 20 = .ok (.iload_n 3, 1) := by decide +kernel
theorem dX6_farFrom_21 : decode cX6_farFrom 21 = .ok (.invokestatic 326, 3) := by decide +kernel
theorem dX6_farFrom_24 : decode cX6_farFrom 24 = .ok (.istore 4, 2) := by decide +kernel
theorem dX6_farFrom_26 : decode cX6_farFrom 26 = .ok (.aload_n 0, 1) := by decide +kernel
theorem dX6_farFrom_27 : decode cX6_farFrom 27 = .ok (.getfield 10, 3) := by decide +kernel
theorem dX6_farFrom_30 : decode cX6_farFrom 30 = .ok (.iload_n 1, 1) := by decide +kernel
theorem dX6_farFrom_31 : decode cX6_farFrom 31 = .ok (.iload 4, 2) := by decide +kernel
theorem dX6_farFrom_33 : decode cX6_farFrom 33 = .ok (.aload_n 0, 1) := by decide +kernel
theorem dX6_farFrom_34 : decode cX6_farFrom 34 = .ok (.getfield 10, 3) := by decide +kernel
theorem dX6_farFrom_37 : decode cX6_farFrom 37 = .ok (.iload_n 1, 1) := by decide +kernel
theorem dX6_farFrom_38 : decode cX6_farFrom 38 = .ok (.invokevirtual 142, 3) := by decide +kernel
theorem dX6_farFrom_41 : decode cX6_farFrom 41 = .ok (.aload_n 0, 1) := by decide +kernel
theorem dX6_farFrom_42 : decode cX6_farFrom 42 = .ok (.getfield 10, 3) := by decide +kernel
theorem dX6_farFrom_45 : decode cX6_farFrom 45 = .ok (.getfield 118, 3) := by decide +kernel
theorem dX6_farFrom_48 : decode cX6_farFrom 48 = .ok (.getfield 121, 3) := by decide +kernel
theorem dX6_farFrom_51 : decode cX6_farFrom 51 = .ok (.invokevirtual 329, 3) := by decide +kernel
theorem dX6_farFrom_54 : decode cX6_farFrom 54 = .ok (.iload_n 2, 1) := by decide +kernel
theorem dX6_farFrom_55 : decode cX6_farFrom 55 = .ok (.isub, 1) := by decide +kernel
theorem dX6_farFrom_56 : decode cX6_farFrom 56 = .ok (.invokestatic 332, 3) := by decide +kernel
theorem dX6_farFrom_59 : decode cX6_farFrom 59 = .ok (.ireturn, 1) := by decide +kernel
theorem dX6_holeAt_0 : decode cX6_holeAt 0 = .ok (.iload_n 0, 1) := by decide +kernel
theorem dX6_holeAt_1 : decode cX6_holeAt 1 = .ok (.iload_n 1, 1) := by decide +kernel
theorem dX6_holeAt_2 : decode cX6_holeAt 2 = .ok (.iload_n 2, 1) := by decide +kernel
theorem dX6_holeAt_3 : decode cX6_holeAt 3 = .ok (.iconst 4, 1) := by decide +kernel
theorem dX6_holeAt_4 : decode cX6_holeAt 4 = .ok (.isub, 1) := by decide +kernel
theorem dX6_holeAt_5 : decode cX6_holeAt 5 = .ok (.imul, 1) := by decide +kernel
theorem dX6_holeAt_6 : decode cX6_holeAt 6 = .ok (.iadd, 1) := by decide +kernel
theorem dX6_holeAt_7 : decode cX6_holeAt 7 = .ok (.ireturn, 1) := by decide +kernel
theorem dX6_chanceOfSlack_0 : decode cX6_chanceOfSlack 0 = .ok (.aload_n 0, 1) := by decide +kernel
theorem dX6_chanceOfSlack_1 : decode cX6_chanceOfSlack 1 = .ok (.aload_n 0, 1) := by decide +kernel
theorem dX6_chanceOfSlack_2 : decode cX6_chanceOfSlack 2 = .ok (.getfield 10, 3) := by decide +kernel
theorem dX6_chanceOfSlack_5 : decode cX6_chanceOfSlack 5 = .ok (.getfield 208, 3) := by decide +kernel
theorem dX6_chanceOfSlack_8 : decode cX6_chanceOfSlack 8 = .ok (.invokevirtual 138, 3) := by decide +kernel
theorem dX6_chanceOfSlack_11 : decode cX6_chanceOfSlack 11 = .ok (.ifCond .eq 5, 3) := by decide +kernel
theorem dX6_chanceOfSlack_14 : decode cX6_chanceOfSlack 14 = .ok (.lconst 0, 1) := by decide +kernel
theorem dX6_chanceOfSlack_15 : decode cX6_chanceOfSlack 15 = .ok (.lreturn, 1) := by decide +kernel
theorem dX6_chanceOfSlack_16 : decode cX6_chanceOfSlack 16 = .ok (.aload_n 0, 1) := by decide +kernel
theorem dX6_chanceOfSlack_17 : decode cX6_chanceOfSlack 17 = .ok (.getfield 10, 3) := by decide +kernel
theorem dX6_chanceOfSlack_20 : decode cX6_chanceOfSlack 20 = .ok (.getfield 205, 3) := by decide +kernel
theorem dX6_chanceOfSlack_23 : decode cX6_chanceOfSlack 23 = .ok (.iload_n 1, 1) := by decide +kernel
theorem dX6_chanceOfSlack_24 : decode cX6_chanceOfSlack 24 = .ok (.iconst 1, 1) := by decide +kernel
theorem dX6_chanceOfSlack_25 : decode cX6_chanceOfSlack 25 = .ok (.isub, 1) := by decide +kernel
theorem dX6_chanceOfSlack_26 : decode cX6_chanceOfSlack 26 = .ok (.invokestatic 195, 3) := by decide +kernel
theorem dX6_chanceOfSlack_29 : decode cX6_chanceOfSlack 29 = .ok (.istore_n 3, 1) := by decide +kernel
theorem dX6_chanceOfSlack_30 : decode cX6_chanceOfSlack 30 = .ok (.lconst 0, 1) := by decide +kernel
theorem dX6_chanceOfSlack_31 : decode cX6_chanceOfSlack 31 = .ok (.lstore 4, 2) := by decide +kernel
theorem dX6_chanceOfSlack_33 : decode cX6_chanceOfSlack 33 = .ok (.iconst 0, 1) := by decide +kernel
theorem dX6_chanceOfSlack_34 : decode cX6_chanceOfSlack 34 = .ok (.istore 6, 2) := by decide +kernel
theorem dX6_chanceOfSlack_36 : decode cX6_chanceOfSlack 36 = .ok (.iload 6, 2) := by decide +kernel
theorem dX6_chanceOfSlack_38 : decode cX6_chanceOfSlack 38 = .ok (.iconst 1, 1) := by decide +kernel
theorem dX6_chanceOfSlack_39 : decode cX6_chanceOfSlack 39 = .ok (.iload_n 1, 1) := by decide +kernel
theorem dX6_chanceOfSlack_40 : decode cX6_chanceOfSlack 40 = .ok (.ishl, 1) := by decide +kernel
theorem dX6_chanceOfSlack_41 : decode cX6_chanceOfSlack 41 = .ok (.if_icmp .ge 131, 3) := by decide +kernel
theorem dX6_chanceOfSlack_44 : decode cX6_chanceOfSlack 44 = .ok (.lconst 1, 1) := by decide +kernel
theorem dX6_chanceOfSlack_45 : decode cX6_chanceOfSlack 45 = .ok (.lstore 7, 2) := by decide +kernel
theorem dX6_chanceOfSlack_47 : decode cX6_chanceOfSlack 47 = .ok (.aload_n 0, 1) := by decide +kernel
theorem dX6_chanceOfSlack_48 : decode cX6_chanceOfSlack 48 = .ok (.getfield 56, 3) := by decide +kernel
theorem dX6_chanceOfSlack_51 : decode cX6_chanceOfSlack 51 = .ok (.aload_n 0, 1) := by decide +kernel
theorem dX6_chanceOfSlack_52 : decode cX6_chanceOfSlack 52 = .ok (.getfield 10, 3) := by decide +kernel
theorem dX6_chanceOfSlack_55 : decode cX6_chanceOfSlack 55 = .ok (.getfield 118, 3) := by decide +kernel
theorem dX6_chanceOfSlack_58 : decode cX6_chanceOfSlack 58 = .ok (.invokevirtual 211, 3) := by decide +kernel
theorem dX6_chanceOfSlack_61 : decode cX6_chanceOfSlack 61 = .ok (.iconst 0, 1) := by decide +kernel
theorem dX6_chanceOfSlack_62 : decode cX6_chanceOfSlack 62 = .ok (.istore 9, 2) := by decide +kernel
theorem dX6_chanceOfSlack_64 : decode cX6_chanceOfSlack 64 = .ok (.iload 9, 2) := by decide +kernel
theorem dX6_chanceOfSlack_66 : decode cX6_chanceOfSlack 66 = .ok (.iload_n 1, 1) := by decide +kernel
theorem dX6_chanceOfSlack_67 : decode cX6_chanceOfSlack 67 = .ok (.if_icmp .ge 70, 3) := by decide +kernel
theorem dX6_chanceOfSlack_70 : decode cX6_chanceOfSlack 70 = .ok (.iload 6, 2) := by decide +kernel
theorem dX6_chanceOfSlack_72 : decode cX6_chanceOfSlack 72 = .ok (.iload 9, 2) := by decide +kernel
theorem dX6_chanceOfSlack_74 : decode cX6_chanceOfSlack 74 = .ok (.invokestatic 308, 3) := by decide +kernel
theorem dX6_chanceOfSlack_77 : decode cX6_chanceOfSlack 77 = .ok (.istore 10, 2) := by decide +kernel
theorem dX6_chanceOfSlack_79 : decode cX6_chanceOfSlack 79 = .ok (.lload 7, 2) := by decide +kernel
theorem dX6_chanceOfSlack_81 : decode cX6_chanceOfSlack 81 = .ok (.iload 10, 2) := by decide +kernel
theorem dX6_chanceOfSlack_83 : decode cX6_chanceOfSlack 83 = .ok (.ifCond .eq 8, 3) := by decide +kernel
theorem dX6_chanceOfSlack_86 : decode cX6_chanceOfSlack 86 = .ok (.iload_n 2, 1) := by decide +kernel
theorem dX6_chanceOfSlack_87 : decode cX6_chanceOfSlack 87 = .ok (.i2l, 1) := by decide +kernel
theorem dX6_chanceOfSlack_88 : decode cX6_chanceOfSlack 88 = .ok (.goto 8, 3) := by decide +kernel
theorem dX6_chanceOfSlack_91 : decode cX6_chanceOfSlack 91 = .ok (.bipush 10, 2) := by decide +kernel
theorem dX6_chanceOfSlack_93 : decode cX6_chanceOfSlack 93 = .ok (.iload_n 2, 1) := by decide +kernel
theorem dX6_chanceOfSlack_94 : decode cX6_chanceOfSlack 94 = .ok (.isub, 1) := by decide +kernel
theorem dX6_chanceOfSlack_95 : decode cX6_chanceOfSlack 95 = .ok (.i2l, 1) := by decide +kernel
theorem dX6_chanceOfSlack_96 : decode cX6_chanceOfSlack 96 = .ok (.lmul, 1) := by decide +kernel
theorem dX6_chanceOfSlack_97 : decode cX6_chanceOfSlack 97 = .ok (.lstore 7, 2) := by decide +kernel
theorem dX6_chanceOfSlack_99 : decode cX6_chanceOfSlack 99 = .ok (.aload_n 0, 1) := by decide +kernel
theorem dX6_chanceOfSlack_100 : decode cX6_chanceOfSlack 100 = .ok (.getfield 10, 3) := by decide +kernel
theorem dX6_chanceOfSlack_103 : decode cX6_chanceOfSlack 103 = .ok (.aload_n 0, 1) := by decide +kernel
theorem dX6_chanceOfSlack_104 : decode cX6_chanceOfSlack 104 = .ok (.getfield 56, 3) := by decide +kernel
theorem dX6_chanceOfSlack_107 : decode cX6_chanceOfSlack 107 = .ok (.iload 10, 2) := by decide +kernel
theorem dX6_chanceOfSlack_109 : decode cX6_chanceOfSlack 109 = .ok (.ifCond .eq 7, 3) := by decide +kernel
theorem dX6_chanceOfSlack_112 : decode cX6_chanceOfSlack 112 = .ok (.iconst 4, 1) := by decide +kernel
theorem dX6_chanceOfSlack_113 : decode cX6_chanceOfSlack 113 = .ok (.goto 15, 3) := by decide +kernel
theorem dX6_chanceOfSlack_116 : decode cX6_chanceOfSlack 116 = .ok (.aload_n 0, 1) := by decide +kernel
theorem dX6_chanceOfSlack_117 : decode cX6_chanceOfSlack 117 = .ok (.getfield 10, 3) := by decide +kernel
theorem dX6_chanceOfSlack_120 : decode cX6_chanceOfSlack 120 = .ok (.getfield 202, 3) := by decide +kernel
theorem dX6_chanceOfSlack_123 : decode cX6_chanceOfSlack 123 = .ok (.iload 9, 2) := by decide +kernel
theorem dX6_chanceOfSlack_125 : decode cX6_chanceOfSlack 125 = .ok (.invokestatic 195, 3) := by decide +kernel
theorem dX6_chanceOfSlack_128 : decode cX6_chanceOfSlack 128 = .ok (.invokevirtual 130, 3) := by decide +kernel
theorem dX6_chanceOfSlack_131 : decode cX6_chanceOfSlack 131 = .ok (.iinc 9 1, 3) := by decide +kernel
theorem dX6_chanceOfSlack_134 : decode cX6_chanceOfSlack 134 = .ok (.goto (-70), 3) := by decide +kernel
theorem dX6_chanceOfSlack_137 : decode cX6_chanceOfSlack 137 = .ok (.aload_n 0, 1) := by decide +kernel
theorem dX6_chanceOfSlack_138 : decode cX6_chanceOfSlack 138 = .ok (.getfield 10, 3) := by decide +kernel
theorem dX6_chanceOfSlack_141 : decode cX6_chanceOfSlack 141 = .ok (.aload_n 0, 1) := by decide +kernel
theorem dX6_chanceOfSlack_142 : decode cX6_chanceOfSlack 142 = .ok (.getfield 56, 3) := by decide +kernel
theorem dX6_chanceOfSlack_145 : decode cX6_chanceOfSlack 145 = .ok (.aload_n 0, 1) := by decide +kernel
theorem dX6_chanceOfSlack_146 : decode cX6_chanceOfSlack 146 = .ok (.getfield 10, 3) := by decide +kernel
theorem dX6_chanceOfSlack_149 : decode cX6_chanceOfSlack 149 = .ok (.getfield 208, 3) := by decide +kernel
theorem dX6_chanceOfSlack_152 : decode cX6_chanceOfSlack 152 = .ok (.invokevirtual 214, 3) := by decide +kernel
theorem dX6_chanceOfSlack_155 : decode cX6_chanceOfSlack 155 = .ok (.iload_n 3, 1) := by decide +kernel
theorem dX6_chanceOfSlack_156 : decode cX6_chanceOfSlack 156 = .ok (.if_icmp .ne 10, 3) := by decide +kernel
theorem dX6_chanceOfSlack_159 : decode cX6_chanceOfSlack 159 = .ok (.lload 4, 2) := by decide +kernel
theorem dX6_chanceOfSlack_161 : decode cX6_chanceOfSlack 161 = .ok (.lload 7, 2) := by decide +kernel
theorem dX6_chanceOfSlack_163 : decode cX6_chanceOfSlack 163 = .ok (.ladd, 1) := by decide +kernel
theorem dX6_chanceOfSlack_164 : decode cX6_chanceOfSlack 164 = .ok (.lstore 4, 2) := by decide +kernel
theorem dX6_chanceOfSlack_166 : decode cX6_chanceOfSlack 166 = .ok (.iinc 6 1, 3) := by decide +kernel
theorem dX6_chanceOfSlack_169 : decode cX6_chanceOfSlack 169 = .ok (.goto (-133), 3) := by decide +kernel
theorem dX6_chanceOfSlack_172 : decode cX6_chanceOfSlack 172 = .ok (.lload 4, 2) := by decide +kernel
theorem dX6_chanceOfSlack_174 : decode cX6_chanceOfSlack 174 = .ok (.lreturn, 1) := by decide +kernel
theorem dX6_setFraction_0 : decode cX6_setFraction 0 = .ok (.lload_n 3, 1) := by decide +kernel
theorem dX6_setFraction_1 : decode cX6_setFraction 1 = .ok (.lstore 5, 2) := by decide +kernel
theorem dX6_setFraction_3 : decode cX6_setFraction 3 = .ok (.lload_n 1, 1) := by decide +kernel
theorem dX6_setFraction_4 : decode cX6_setFraction 4 = .ok (.lstore 7, 2) := by decide +kernel
theorem dX6_setFraction_6 : decode cX6_setFraction 6 = .ok (.iconst 0, 1) := by decide +kernel
theorem dX6_setFraction_7 : decode cX6_setFraction 7 = .ok (.istore 9, 2) := by decide +kernel
theorem dX6_setFraction_9 : decode cX6_setFraction 9 = .ok (.iload 9, 2) := by decide +kernel
theorem dX6_setFraction_11 : decode cX6_setFraction 11 = .ok (.bipush 100, 2) := by decide +kernel
theorem dX6_setFraction_13 : decode cX6_setFraction 13 = .ok (.if_icmp .ge 31, 3) := by decide +kernel
theorem dX6_setFraction_16 : decode cX6_setFraction 16 = .ok (.lload 7, 2) := by decide +kernel
theorem dX6_setFraction_18 : decode cX6_setFraction 18 = .ok (.lconst 0, 1) := by decide +kernel
theorem dX6_setFraction_19 : decode cX6_setFraction 19 = .ok (.lcmp, 1) := by decide +kernel
theorem dX6_setFraction_20 : decode cX6_setFraction 20 = .ok (.ifCond .eq 24, 3) := by decide +kernel
theorem dX6_setFraction_23 : decode cX6_setFraction 23 = .ok (.lload 5, 2) := by decide +kernel
theorem dX6_setFraction_25 : decode cX6_setFraction 25 = .ok (.lload 7, 2) := by decide +kernel
theorem dX6_setFraction_27 : decode cX6_setFraction 27 = .ok (.lrem, 1) := by decide +kernel
theorem dX6_setFraction_28 : decode cX6_setFraction 28 = .ok (.lstore 10, 2) := by decide +kernel
theorem dX6_setFraction_30 : decode cX6_setFraction 30 = .ok (.lload 7, 2) := by decide +kernel
theorem dX6_setFraction_32 : decode cX6_setFraction 32 = .ok (.lstore 5, 2) := by decide +kernel
theorem dX6_setFraction_34 : decode cX6_setFraction 34 = .ok (.lload 10, 2) := by decide +kernel
theorem dX6_setFraction_36 : decode cX6_setFraction 36 = .ok (.lstore 7, 2) := by decide +kernel
theorem dX6_setFraction_38 : decode cX6_setFraction 38 = .ok (.iinc 9 1, 3) := by decide +kernel
theorem dX6_setFraction_41 : decode cX6_setFraction 41 = .ok (.goto (-32), 3) := by decide +kernel
theorem dX6_setFraction_44 : decode cX6_setFraction 44 = .ok (.lload 5, 2) := by decide +kernel
theorem dX6_setFraction_46 : decode cX6_setFraction 46 = .ok (.lconst 0, 1) := by decide +kernel
theorem dX6_setFraction_47 : decode cX6_setFraction 47 = .ok (.lcmp, 1) := by decide +kernel
theorem dX6_setFraction_48 : decode cX6_setFraction 48 = .ok (.ifCond .le 19, 3) := by decide +kernel
theorem dX6_setFraction_51 : decode cX6_setFraction 51 = .ok (.aload_n 0, 1) := by decide +kernel
theorem dX6_setFraction_52 : decode cX6_setFraction 52 = .ok (.lload_n 1, 1) := by decide +kernel
theorem dX6_setFraction_53 : decode cX6_setFraction 53 = .ok (.lload 5, 2) := by decide +kernel
theorem dX6_setFraction_55 : decode cX6_setFraction 55 = .ok (.ldiv, 1) := by decide +kernel
theorem dX6_setFraction_56 : decode cX6_setFraction 56 = .ok (.putfield 64, 3) := by decide +kernel
theorem dX6_setFraction_59 : decode cX6_setFraction 59 = .ok (.aload_n 0, 1) := by decide +kernel
theorem dX6_setFraction_60 : decode cX6_setFraction 60 = .ok (.lload_n 3, 1) := by decide +kernel
theorem dX6_setFraction_61 : decode cX6_setFraction 61 = .ok (.lload 5, 2) := by decide +kernel
theorem dX6_setFraction_63 : decode cX6_setFraction 63 = .ok (.ldiv, 1) := by decide +kernel
theorem dX6_setFraction_64 : decode cX6_setFraction 64 = .ok (.putfield 68, 3) := by decide +kernel
theorem dX6_setFraction_67 : decode cX6_setFraction 67 = .ok (.return_, 1) := by decide +kernel
theorem dX6_fittingWeights_0 : decode cX6_fittingWeights 0 = .ok (.iconst 0, 1) := by decide +kernel
theorem dX6_fittingWeights_1 : decode cX6_fittingWeights 1 = .ok (.istore_n 2, 1) := by decide +kernel
theorem dX6_fittingWeights_2 : decode cX6_fittingWeights 2 = .ok (.iconst 1, 1) := by decide +kernel
theorem dX6_fittingWeights_3 : decode cX6_fittingWeights 3 = .ok (.istore_n 3, 1) := by decide +kernel
theorem dX6_fittingWeights_4 : decode cX6_fittingWeights 4 = .ok (.iload_n 3, 1) := by decide +kernel
theorem dX6_fittingWeights_5 : decode cX6_fittingWeights 5 = .ok (.bipush 9, 2) := by decide +kernel
theorem dX6_fittingWeights_7 : decode cX6_fittingWeights 7 = .ok (.if_icmp .gt 24, 3) := by decide +kernel
theorem dX6_fittingWeights_10 : decode cX6_fittingWeights 10 = .ok (.aload_n 0, 1) := by decide +kernel
theorem dX6_fittingWeights_11 : decode cX6_fittingWeights 11 = .ok (.iload_n 1, 1) := by decide +kernel
theorem dX6_fittingWeights_12 : decode cX6_fittingWeights 12 = .ok (.iload_n 3, 1) := by decide +kernel
theorem dX6_fittingWeights_13 : decode cX6_fittingWeights 13 = .ok (.invokevirtual 335, 3) := by decide +kernel
theorem dX6_fittingWeights_16 : decode cX6_fittingWeights 16 = .ok (.ifCond .eq 9, 3) := by decide +kernel
theorem dX6_fittingWeights_19 : decode cX6_fittingWeights 19 = .ok (.iload_n 2, 1) := by decide +kernel
theorem dX6_fittingWeights_20 : decode cX6_fittingWeights 20 = .ok (.iconst 1, 1) := by decide +kernel
theorem dX6_fittingWeights_21 : decode cX6_fittingWeights 21 = .ok (.iload_n 3, 1) := by decide +kernel
theorem dX6_fittingWeights_22 : decode cX6_fittingWeights 22 = .ok (.ishl, 1) := by decide +kernel
theorem dX6_fittingWeights_23 : decode cX6_fittingWeights 23 = .ok (.ior, 1) := by decide +kernel
theorem dX6_fittingWeights_24 : decode cX6_fittingWeights 24 = .ok (.istore_n 2, 1) := by decide +kernel
theorem dX6_fittingWeights_25 : decode cX6_fittingWeights 25 = .ok (.iinc 3 1, 3) := by decide +kernel
theorem dX6_fittingWeights_28 : decode cX6_fittingWeights 28 = .ok (.goto (-24), 3) := by decide +kernel
theorem dX6_fittingWeights_31 : decode cX6_fittingWeights 31 = .ok (.iload_n 2, 1) := by decide +kernel
theorem dX6_fittingWeights_32 : decode cX6_fittingWeights 32 = .ok (.ireturn, 1) := by decide +kernel
theorem dX6_fitsSights_0 : decode cX6_fitsSights 0 = .ok (.aload_n 0, 1) := by decide +kernel
theorem dX6_fitsSights_1 : decode cX6_fitsSights 1 = .ok (.getfield 10, 3) := by decide +kernel
theorem dX6_fitsSights_4 : decode cX6_fitsSights 4 = .ok (.getfield 218, 3) := by decide +kernel
theorem dX6_fitsSights_7 : decode cX6_fitsSights 7 = .ok (.astore_n 3, 1) := by decide +kernel
theorem dX6_fitsSights_8 : decode cX6_fitsSights 8 = .ok (.iconst 0, 1) := by decide +kernel
theorem dX6_fitsSights_9 : decode cX6_fitsSights 9 = .ok (.istore 4, 2) := by decide +kernel
theorem dX6_fitsSights_11 : decode cX6_fitsSights 11 = .ok (.iload 4, 2) := by decide +kernel
theorem dX6_fitsSights_13 : decode cX6_fitsSights 13 = .ok (.aload_n 3, 1) := by decide +kernel
theorem dX6_fitsSights_14 : decode cX6_fitsSights 14 = .ok (.getfield 325, 3) := by decide +kernel
theorem dX6_fitsSights_17 : decode cX6_fitsSights 17 = .ok (.if_icmp .ge 52, 3) := by decide +kernel
theorem dX6_fitsSights_20 : decode cX6_fitsSights 20 = .ok (.aload_n 3, 1) := by decide +kernel
theorem dX6_fitsSights_21 : decode cX6_fitsSights 21 = .ok (.iload 4, 2) := by decide +kernel
theorem dX6_fitsSights_23 : decode cX6_fitsSights 23 = .ok (.iconst 0, 1) := by decide +kernel
theorem dX6_fitsSights_24 : decode cX6_fitsSights 24 = .ok (.invokevirtual 338, 3) := by decide +kernel
theorem dX6_fitsSights_27 : decode cX6_fitsSights 27 = .ok (.iload_n 1, 1) := by decide +kernel
theorem dX6_fitsSights_28 : decode cX6_fitsSights 28 = .ok (.if_icmp .ne 35, 3) := by decide +kernel
theorem dX6_fitsSights_31 : decode cX6_fitsSights 31 = .ok (.aload_n 0, 1) := by decide +kernel
theorem dX6_fitsSights_32 : decode cX6_fitsSights 32 = .ok (.iload_n 1, 1) := by decide +kernel
theorem dX6_fitsSights_33 : decode cX6_fitsSights 33 = .ok (.aload_n 3, 1) := by decide +kernel
theorem dX6_fitsSights_34 : decode cX6_fitsSights 34 = .ok (.iload 4, 2) := by decide +kernel
theorem dX6_fitsSights_36 : decode cX6_fitsSights 36 = .ok (.iconst 1, 1) := by decide +kernel
theorem dX6_fitsSights_37 : decode cX6_fitsSights 37 = .ok (.invokevirtual 338, 3) := by decide +kernel
theorem dX6_fitsSights_40 : decode cX6_fitsSights 40 = .ok (.iload_n 2, 1) := by decide +kernel
theorem dX6_fitsSights_41 : decode cX6_fitsSights 41 = .ok (.aload_n 3, 1) := by decide +kernel
theorem dX6_fitsSights_42 : decode cX6_fitsSights 42 = .ok (.iload 4, 2) := by decide +kernel
theorem dX6_fitsSights_44 : decode cX6_fitsSights 44 = .ok (.iconst 2, 1) := by decide +kernel
theorem dX6_fitsSights_45 : decode cX6_fitsSights 45 = .ok (.invokevirtual 338, 3) := by decide +kernel
theorem dX6_fitsSights_48 : decode cX6_fitsSights 48 = .ok (.invokevirtual 341, 3) := by decide +kernel
theorem dX6_fitsSights_51 : decode cX6_fitsSights 51 = .ok (.aload_n 3, 1) := by decide +kernel
theorem dX6_fitsSights_52 : decode cX6_fitsSights 52 = .ok (.iload 4, 2) := by decide +kernel
theorem dX6_fitsSights_54 : decode cX6_fitsSights 54 = .ok (.iconst 3, 1) := by decide +kernel
theorem dX6_fitsSights_55 : decode cX6_fitsSights 55 = .ok (.invokevirtual 338, 3) := by decide +kernel
theorem dX6_fitsSights_58 : decode cX6_fitsSights 58 = .ok (.if_icmp .eq 5, 3) := by decide +kernel
theorem dX6_fitsSights_61 : decode cX6_fitsSights 61 = .ok (.iconst 0, 1) := by decide +kernel
theorem dX6_fitsSights_62 : decode cX6_fitsSights 62 = .ok (.ireturn, 1) := by decide +kernel
theorem dX6_fitsSights_63 : decode cX6_fitsSights 63 = .ok (.iinc 4 1, 3) := by decide +kernel
theorem dX6_fitsSights_66 : decode cX6_fitsSights 66 = .ok (.goto (-55), 3) := by decide +kernel
theorem dX6_fitsSights_69 : decode cX6_fitsSights 69 = .ok (.iconst 1, 1) := by decide +kernel
theorem dX6_fitsSights_70 : decode cX6_fitsSights 70 = .ok (.ireturn, 1) := by decide +kernel
theorem dX6_fittingStrings_0 : decode cX6_fittingStrings 0 = .ok (.iconst 0, 1) := by decide +kernel
theorem dX6_fittingStrings_1 : decode cX6_fittingStrings 1 = .ok (.istore_n 2, 1) := by decide +kernel
theorem dX6_fittingStrings_2 : decode cX6_fittingStrings 2 = .ok (.iconst 0, 1) := by decide +kernel
theorem dX6_fittingStrings_3 : decode cX6_fittingStrings 3 = .ok (.istore_n 3, 1) := by decide +kernel
theorem dX6_fittingStrings_4 : decode cX6_fittingStrings 4 = .ok (.iload_n 3, 1) := by decide +kernel
theorem dX6_fittingStrings_5 : decode cX6_fittingStrings 5 = .ok (.bipush 6, 2) := by decide +kernel
theorem dX6_fittingStrings_7 : decode cX6_fittingStrings 7 = .ok (.if_icmp .ge 24, 3) := by decide +kernel
theorem dX6_fittingStrings_10 : decode cX6_fittingStrings 10 = .ok (.aload_n 0, 1) := by decide +kernel
theorem dX6_fittingStrings_11 : decode cX6_fittingStrings 11 = .ok (.iload_n 1, 1) := by decide +kernel
theorem dX6_fittingStrings_12 : decode cX6_fittingStrings 12 = .ok (.iload_n 3, 1) := by decide +kernel
theorem dX6_fittingStrings_13 : decode cX6_fittingStrings 13 = .ok (.invokevirtual 344, 3) := by decide +kernel
theorem dX6_fittingStrings_16 : decode cX6_fittingStrings 16 = .ok (.ifCond .eq 9, 3) := by decide +kernel
theorem dX6_fittingStrings_19 : decode cX6_fittingStrings 19 = .ok (.iload_n 2, 1) := by decide +kernel
theorem dX6_fittingStrings_20 : decode cX6_fittingStrings 20 = .ok (.iconst 1, 1) := by decide +kernel
theorem dX6_fittingStrings_21 : decode cX6_fittingStrings 21 = .ok (.iload_n 3, 1) := by decide +kernel
theorem dX6_fittingStrings_22 : decode cX6_fittingStrings 22 = .ok (.ishl, 1) := by decide +kernel
theorem dX6_fittingStrings_23 : decode cX6_fittingStrings 23 = .ok (.ior, 1) := by decide +kernel
theorem dX6_fittingStrings_24 : decode cX6_fittingStrings 24 = .ok (.istore_n 2, 1) := by decide +kernel
theorem dX6_fittingStrings_25 : decode cX6_fittingStrings 25 = .ok (.iinc 3 1, 3) := by decide +kernel
theorem dX6_fittingStrings_28 : decode cX6_fittingStrings 28 = .ok (.goto (-24), 3) := by decide +kernel
theorem dX6_fittingStrings_31 : decode cX6_fittingStrings 31 = .ok (.iload_n 2, 1) := by decide +kernel
theorem dX6_fittingStrings_32 : decode cX6_fittingStrings 32 = .ok (.ireturn, 1) := by decide +kernel
theorem dX6_fitsNotes_0 : decode cX6_fitsNotes 0 = .ok (.aload_n 0, 1) := by decide +kernel
theorem dX6_fitsNotes_1 : decode cX6_fitsNotes 1 = .ok (.getfield 10, 3) := by decide +kernel
theorem dX6_fitsNotes_4 : decode cX6_fitsNotes 4 = .ok (.getfield 247, 3) := by decide +kernel
theorem dX6_fitsNotes_7 : decode cX6_fitsNotes 7 = .ok (.astore_n 3, 1) := by decide +kernel
theorem dX6_fitsNotes_8 : decode cX6_fitsNotes 8 = .ok (.iconst 0, 1) := by decide +kernel
theorem dX6_fitsNotes_9 : decode cX6_fitsNotes 9 = .ok (.istore 4, 2) := by decide +kernel
theorem dX6_fitsNotes_11 : decode cX6_fitsNotes 11 = .ok (.iload 4, 2) := by decide +kernel
theorem dX6_fitsNotes_13 : decode cX6_fitsNotes 13 = .ok (.aload_n 3, 1) := by decide +kernel
theorem dX6_fitsNotes_14 : decode cX6_fitsNotes 14 = .ok (.getfield 325, 3) := by decide +kernel
theorem dX6_fitsNotes_17 : decode cX6_fitsNotes 17 = .ok (.if_icmp .ge 57, 3) := by decide +kernel
theorem dX6_fitsNotes_20 : decode cX6_fitsNotes 20 = .ok (.aload_n 3, 1) := by decide +kernel
theorem dX6_fitsNotes_21 : decode cX6_fitsNotes 21 = .ok (.iload 4, 2) := by decide +kernel
theorem dX6_fitsNotes_23 : decode cX6_fitsNotes 23 = .ok (.iconst 0, 1) := by decide +kernel
theorem dX6_fitsNotes_24 : decode cX6_fitsNotes 24 = .ok (.invokevirtual 338, 3) := by decide +kernel
theorem dX6_fitsNotes_27 : decode cX6_fitsNotes 27 = .ok (.iload_n 1, 1) := by decide +kernel
theorem dX6_fitsNotes_28 : decode cX6_fitsNotes 28 = .ok (.if_icmp .ne 40, 3) := by decide +kernel
theorem dX6_fitsNotes_31 : decode cX6_fitsNotes 31 = .ok (.iload_n 2, 1) := by decide +kernel
theorem dX6_fitsNotes_32 : decode cX6_fitsNotes 32 = .ok (.aload_n 3, 1) := by decide +kernel
theorem dX6_fitsNotes_33 : decode cX6_fitsNotes 33 = .ok (.iload 4, 2) := by decide +kernel
theorem dX6_fitsNotes_35 : decode cX6_fitsNotes 35 = .ok (.iconst 1, 1) := by decide +kernel
theorem dX6_fitsNotes_36 : decode cX6_fitsNotes 36 = .ok (.invokevirtual 338, 3) := by decide +kernel
theorem dX6_fitsNotes_39 : decode cX6_fitsNotes 39 = .ok (.aload_n 3, 1) := by decide +kernel
theorem dX6_fitsNotes_40 : decode cX6_fitsNotes 40 = .ok (.iload 4, 2) := by decide +kernel
theorem dX6_fitsNotes_42 : decode cX6_fitsNotes 42 = .ok (.iconst 2, 1) := by decide +kernel
theorem dX6_fitsNotes_43 : decode cX6_fitsNotes 43 = .ok (.invokevirtual 338, 3) := by decide +kernel
theorem dX6_fitsNotes_46 : decode cX6_fitsNotes 46 = .ok (.aload_n 3, 1) := by decide +kernel
theorem dX6_fitsNotes_47 : decode cX6_fitsNotes 47 = .ok (.iload 4, 2) := by decide +kernel
theorem dX6_fitsNotes_49 : decode cX6_fitsNotes 49 = .ok (.iconst 3, 1) := by decide +kernel
theorem dX6_fitsNotes_50 : decode cX6_fitsNotes 50 = .ok (.invokevirtual 338, 3) := by decide +kernel
theorem dX6_fitsNotes_53 : decode cX6_fitsNotes 53 = .ok (.invokestatic 347, 3) := by decide +kernel
theorem dX6_fitsNotes_56 : decode cX6_fitsNotes 56 = .ok (.aload_n 3, 1) := by decide +kernel
theorem dX6_fitsNotes_57 : decode cX6_fitsNotes 57 = .ok (.iload 4, 2) := by decide +kernel
theorem dX6_fitsNotes_59 : decode cX6_fitsNotes 59 = .ok (.iconst 4, 1) := by decide +kernel
theorem dX6_fitsNotes_60 : decode cX6_fitsNotes 60 = .ok (.invokevirtual 338, 3) := by decide +kernel
theorem dX6_fitsNotes_63 : decode cX6_fitsNotes 63 = .ok (.if_icmp .eq 5, 3) := by decide +kernel
theorem dX6_fitsNotes_66 : decode cX6_fitsNotes 66 = .ok (.iconst 0, 1) := by decide +kernel
theorem dX6_fitsNotes_67 : decode cX6_fitsNotes 67 = .ok (.ireturn, 1) := by decide +kernel
theorem dX6_fitsNotes_68 : decode cX6_fitsNotes 68 = .ok (.iinc 4 1, 3) := by decide +kernel
theorem dX6_fitsNotes_71 : decode cX6_fitsNotes 71 = .ok (.goto (-60), 3) := by decide +kernel
theorem dX6_fitsNotes_74 : decode cX6_fitsNotes 74 = .ok (.iconst 1, 1) := by decide +kernel
theorem dX6_fitsNotes_75 : decode cX6_fitsNotes 75 = .ok (.ireturn, 1) := by decide +kernel
theorem dX6_fittingKinds_0 : decode cX6_fittingKinds 0 = .ok (.iconst 0, 1) := by decide +kernel
theorem dX6_fittingKinds_1 : decode cX6_fittingKinds 1 = .ok (.istore_n 2, 1) := by decide +kernel
theorem dX6_fittingKinds_2 : decode cX6_fittingKinds 2 = .ok (.iconst 0, 1) := by decide +kernel
theorem dX6_fittingKinds_3 : decode cX6_fittingKinds 3 = .ok (.istore_n 3, 1) := by decide +kernel
theorem dX6_fittingKinds_4 : decode cX6_fittingKinds 4 = .ok (.iload_n 3, 1) := by decide +kernel
theorem dX6_fittingKinds_5 : decode cX6_fittingKinds 5 = .ok (.bipush 6, 2) := by decide +kernel
theorem dX6_fittingKinds_7 : decode cX6_fittingKinds 7 = .ok (.if_icmp .ge 24, 3) := by decide +kernel
theorem dX6_fittingKinds_10 : decode cX6_fittingKinds 10 = .ok (.aload_n 0, 1) := by decide +kernel
theorem dX6_fittingKinds_11 : decode cX6_fittingKinds 11 = .ok (.iload_n 1, 1) := by decide +kernel
theorem dX6_fittingKinds_12 : decode cX6_fittingKinds 12 = .ok (.iload_n 3, 1) := by decide +kernel
theorem dX6_fittingKinds_13 : decode cX6_fittingKinds 13 = .ok (.invokevirtual 350, 3) := by decide +kernel
theorem dX6_fittingKinds_16 : decode cX6_fittingKinds 16 = .ok (.ifCond .eq 9, 3) := by decide +kernel
theorem dX6_fittingKinds_19 : decode cX6_fittingKinds 19 = .ok (.iload_n 2, 1) := by decide +kernel
theorem dX6_fittingKinds_20 : decode cX6_fittingKinds 20 = .ok (.iconst 1, 1) := by decide +kernel
theorem dX6_fittingKinds_21 : decode cX6_fittingKinds 21 = .ok (.iload_n 3, 1) := by decide +kernel
theorem dX6_fittingKinds_22 : decode cX6_fittingKinds 22 = .ok (.ishl, 1) := by decide +kernel
theorem dX6_fittingKinds_23 : decode cX6_fittingKinds 23 = .ok (.ior, 1) := by decide +kernel
theorem dX6_fittingKinds_24 : decode cX6_fittingKinds 24 = .ok (.istore_n 2, 1) := by decide +kernel
theorem dX6_fittingKinds_25 : decode cX6_fittingKinds 25 = .ok (.iinc 3 1, 3) := by decide +kernel
theorem dX6_fittingKinds_28 : decode cX6_fittingKinds 28 = .ok (.goto (-24), 3) := by decide +kernel
theorem dX6_fittingKinds_31 : decode cX6_fittingKinds 31 = .ok (.iload_n 2, 1) := by decide +kernel
theorem dX6_fittingKinds_32 : decode cX6_fittingKinds 32 = .ok (.ireturn, 1) := by decide +kernel
theorem dX6_fitsMarks_0 : decode cX6_fitsMarks 0 = .ok (.aload_n 0, 1) := by decide +kernel
theorem dX6_fitsMarks_1 : decode cX6_fitsMarks 1 = .ok (.getfield 10, 3) := by decide +kernel
theorem dX6_fitsMarks_4 : decode cX6_fitsMarks 4 = .ok (.getfield 250, 3) := by decide +kernel
theorem dX6_fitsMarks_7 : decode cX6_fitsMarks 7 = .ok (.astore_n 3, 1) := by decide +kernel
theorem dX6_fitsMarks_8 : decode cX6_fitsMarks 8 = .ok (.iconst 0, 1) := by decide +kernel
theorem dX6_fitsMarks_9 : decode cX6_fitsMarks 9 = .ok (.istore 4, 2) := by decide +kernel
theorem dX6_fitsMarks_11 : decode cX6_fitsMarks 11 = .ok (.iload 4, 2) := by decide +kernel
theorem dX6_fitsMarks_13 : decode cX6_fitsMarks 13 = .ok (.aload_n 3, 1) := by decide +kernel
theorem dX6_fitsMarks_14 : decode cX6_fitsMarks 14 = .ok (.getfield 325, 3) := by decide +kernel
theorem dX6_fitsMarks_17 : decode cX6_fitsMarks 17 = .ok (.if_icmp .ge 50, 3) := by decide +kernel
theorem dX6_fitsMarks_20 : decode cX6_fitsMarks 20 = .ok (.aload_n 3, 1) := by decide +kernel
theorem dX6_fitsMarks_21 : decode cX6_fitsMarks 21 = .ok (.iload 4, 2) := by decide +kernel
theorem dX6_fitsMarks_23 : decode cX6_fitsMarks 23 = .ok (.iconst 0, 1) := by decide +kernel
theorem dX6_fitsMarks_24 : decode cX6_fitsMarks 24 = .ok (.invokevirtual 338, 3) := by decide +kernel
theorem dX6_fitsMarks_27 : decode cX6_fitsMarks 27 = .ok (.iload_n 1, 1) := by decide +kernel
theorem dX6_fitsMarks_28 : decode cX6_fitsMarks 28 = .ok (.if_icmp .ne 33, 3) := by decide +kernel
theorem dX6_fitsMarks_31 : decode cX6_fitsMarks 31 = .ok (.iload_n 2, 1) := by decide +kernel
theorem dX6_fitsMarks_32 : decode cX6_fitsMarks 32 = .ok (.aload_n 3, 1) := by decide +kernel
theorem dX6_fitsMarks_33 : decode cX6_fitsMarks 33 = .ok (.iload 4, 2) := by decide +kernel
theorem dX6_fitsMarks_35 : decode cX6_fitsMarks 35 = .ok (.iconst 1, 1) := by decide +kernel
theorem dX6_fitsMarks_36 : decode cX6_fitsMarks 36 = .ok (.invokevirtual 338, 3) := by decide +kernel
theorem dX6_fitsMarks_39 : decode cX6_fitsMarks 39 = .ok (.aload_n 3, 1) := by decide +kernel
theorem dX6_fitsMarks_40 : decode cX6_fitsMarks 40 = .ok (.iload 4, 2) := by decide +kernel
theorem dX6_fitsMarks_42 : decode cX6_fitsMarks 42 = .ok (.iconst 2, 1) := by decide +kernel
theorem dX6_fitsMarks_43 : decode cX6_fitsMarks 43 = .ok (.invokevirtual 338, 3) := by decide +kernel
theorem dX6_fitsMarks_46 : decode cX6_fitsMarks 46 = .ok (.invokestatic 353, 3) := by decide +kernel
theorem dX6_fitsMarks_49 : decode cX6_fitsMarks 49 = .ok (.aload_n 3, 1) := by decide +kernel
theorem dX6_fitsMarks_50 : decode cX6_fitsMarks 50 = .ok (.iload 4, 2) := by decide +kernel
theorem dX6_fitsMarks_52 : decode cX6_fitsMarks 52 = .ok (.iconst 3, 1) := by decide +kernel
theorem dX6_fitsMarks_53 : decode cX6_fitsMarks 53 = .ok (.invokevirtual 338, 3) := by decide +kernel
theorem dX6_fitsMarks_56 : decode cX6_fitsMarks 56 = .ok (.if_icmp .eq 5, 3) := by decide +kernel
theorem dX6_fitsMarks_59 : decode cX6_fitsMarks 59 = .ok (.iconst 0, 1) := by decide +kernel
theorem dX6_fitsMarks_60 : decode cX6_fitsMarks 60 = .ok (.ireturn, 1) := by decide +kernel
theorem dX6_fitsMarks_61 : decode cX6_fitsMarks 61 = .ok (.iinc 4 1, 3) := by decide +kernel
theorem dX6_fitsMarks_64 : decode cX6_fitsMarks 64 = .ok (.goto (-53), 3) := by decide +kernel
theorem dX6_fitsMarks_67 : decode cX6_fitsMarks 67 = .ok (.iconst 1, 1) := by decide +kernel
theorem dX6_fitsMarks_68 : decode cX6_fitsMarks 68 = .ok (.ireturn, 1) := by decide +kernel
theorem dX6_alikeByLength_0 : decode cX6_alikeByLength 0 = .ok (.iconst 0, 1) := by decide +kernel
theorem dX6_alikeByLength_1 : decode cX6_alikeByLength 1 = .ok (.istore 4, 2) := by decide +kernel
theorem dX6_alikeByLength_3 : decode cX6_alikeByLength 3 = .ok (.iconst 1, 1) := by decide +kernel
theorem dX6_alikeByLength_4 : decode cX6_alikeByLength 4 = .ok (.istore 5, 2) := by decide +kernel
theorem dX6_alikeByLength_6 : decode cX6_alikeByLength 6 = .ok (.iload 5, 2) := by decide +kernel
theorem dX6_alikeByLength_8 : decode cX6_alikeByLength 8 = .ok (.bipush 9, 2) := by decide +kernel
theorem dX6_alikeByLength_10 : decode cX6_alikeByLength 10 = .ok (.if_icmp .gt 40, 3) := by decide +kernel
theorem dX6_alikeByLength_13 : decode cX6_alikeByLength 13 = .ok (.iload_n 2, 1) := by decide +kernel
theorem dX6_alikeByLength_14 : decode cX6_alikeByLength 14 = .ok (.iload 5, 2) := by decide +kernel
theorem dX6_alikeByLength_16 : decode cX6_alikeByLength 16 = .ok (.invokestatic 308, 3) := by decide +kernel
theorem dX6_alikeByLength_19 : decode cX6_alikeByLength 19 = .ok (.ifCond .eq 25, 3) := by decide +kernel
theorem dX6_alikeByLength_22 : decode cX6_alikeByLength 22 = .ok (.aload_n 0, 1) := by decide +kernel
theorem dX6_alikeByLength_23 : decode cX6_alikeByLength 23 = .ok (.getfield 60, 3) := by decide +kernel
theorem dX6_alikeByLength_26 : decode cX6_alikeByLength 26 = .ok (.iload 4, 2) := by decide +kernel
theorem dX6_alikeByLength_28 : decode cX6_alikeByLength 28 = .ok (.aload_n 0, 1) := by decide +kernel
theorem dX6_alikeByLength_29 : decode cX6_alikeByLength 29 = .ok (.iload_n 1, 1) := by decide +kernel
theorem dX6_alikeByLength_30 : decode cX6_alikeByLength 30 = .ok (.iload_n 3, 1) := by decide +kernel
theorem dX6_alikeByLength_31 : decode cX6_alikeByLength 31 = .ok (.iload 5, 2) := by decide +kernel
theorem dX6_alikeByLength_33 : decode cX6_alikeByLength 33 = .ok (.bipush 30, 2) := by decide +kernel
theorem dX6_alikeByLength_35 : decode cX6_alikeByLength 35 = .ok (.invokevirtual 341, 3) := by decide +kernel
theorem dX6_alikeByLength_38 : decode cX6_alikeByLength 38 = .ok (.invokestatic 151, 3) := by decide +kernel
theorem dX6_alikeByLength_41 : decode cX6_alikeByLength 41 = .ok (.iinc 4 1, 3) := by decide +kernel
theorem dX6_alikeByLength_44 : decode cX6_alikeByLength 44 = .ok (.iinc 5 1, 3) := by decide +kernel
theorem dX6_alikeByLength_47 : decode cX6_alikeByLength 47 = .ok (.goto (-41), 3) := by decide +kernel
theorem dX6_alikeByLength_50 : decode cX6_alikeByLength 50 = .ok (.aload_n 0, 1) := by decide +kernel
theorem dX6_alikeByLength_51 : decode cX6_alikeByLength 51 = .ok (.getfield 60, 3) := by decide +kernel
theorem dX6_alikeByLength_54 : decode cX6_alikeByLength 54 = .ok (.iload 4, 2) := by decide +kernel
theorem dX6_alikeByLength_56 : decode cX6_alikeByLength 56 = .ok (.invokestatic 356, 3) := by decide +kernel
theorem dX6_alikeByLength_59 : decode cX6_alikeByLength 59 = .ok (.ireturn, 1) := by decide +kernel
theorem dX6_alikeByDrop_0 : decode cX6_alikeByDrop 0 = .ok (.iconst 0, 1) := by decide +kernel
theorem dX6_alikeByDrop_1 : decode cX6_alikeByDrop 1 = .ok (.istore 5, 2) := by decide +kernel
theorem dX6_alikeByDrop_3 : decode cX6_alikeByDrop 3 = .ok (.iconst 0, 1) := by decide +kernel
theorem dX6_alikeByDrop_4 : decode cX6_alikeByDrop 4 = .ok (.istore 6, 2) := by decide +kernel
theorem dX6_alikeByDrop_6 : decode cX6_alikeByDrop 6 = .ok (.iload 6, 2) := by decide +kernel
theorem dX6_alikeByDrop_8 : decode cX6_alikeByDrop 8 = .ok (.bipush 6, 2) := by decide +kernel
theorem dX6_alikeByDrop_10 : decode cX6_alikeByDrop 10 = .ok (.if_icmp .ge 39, 3) := by decide +kernel
theorem dX6_alikeByDrop_13 : decode cX6_alikeByDrop 13 = .ok (.iload_n 1, 1) := by decide +kernel
theorem dX6_alikeByDrop_14 : decode cX6_alikeByDrop 14 = .ok (.iload 6, 2) := by decide +kernel
theorem dX6_alikeByDrop_16 : decode cX6_alikeByDrop 16 = .ok (.invokestatic 308, 3) := by decide +kernel
theorem dX6_alikeByDrop_19 : decode cX6_alikeByDrop 19 = .ok (.ifCond .eq 24, 3) := by decide +kernel
theorem dX6_alikeByDrop_22 : decode cX6_alikeByDrop 22 = .ok (.aload_n 0, 1) := by decide +kernel
theorem dX6_alikeByDrop_23 : decode cX6_alikeByDrop 23 = .ok (.getfield 60, 3) := by decide +kernel
theorem dX6_alikeByDrop_26 : decode cX6_alikeByDrop 26 = .ok (.iload 5, 2) := by decide +kernel
theorem dX6_alikeByDrop_28 : decode cX6_alikeByDrop 28 = .ok (.iload 6, 2) := by decide +kernel
theorem dX6_alikeByDrop_30 : decode cX6_alikeByDrop 30 = .ok (.iload_n 2, 1) := by decide +kernel
theorem dX6_alikeByDrop_31 : decode cX6_alikeByDrop 31 = .ok (.iload_n 3, 1) := by decide +kernel
theorem dX6_alikeByDrop_32 : decode cX6_alikeByDrop 32 = .ok (.iload 4, 2) := by decide +kernel
theorem dX6_alikeByDrop_34 : decode cX6_alikeByDrop 34 = .ok (.invokestatic 347, 3) := by decide +kernel
theorem dX6_alikeByDrop_37 : decode cX6_alikeByDrop 37 = .ok (.invokestatic 151, 3) := by decide +kernel
theorem dX6_alikeByDrop_40 : decode cX6_alikeByDrop 40 = .ok (.iinc 5 1, 3) := by decide +kernel
theorem dX6_alikeByDrop_43 : decode cX6_alikeByDrop 43 = .ok (.iinc 6 1, 3) := by decide +kernel
theorem dX6_alikeByDrop_46 : decode cX6_alikeByDrop 46 = .ok (.goto (-40), 3) := by decide +kernel
theorem dX6_alikeByDrop_49 : decode cX6_alikeByDrop 49 = .ok (.aload_n 0, 1) := by decide +kernel
theorem dX6_alikeByDrop_50 : decode cX6_alikeByDrop 50 = .ok (.getfield 60, 3) := by decide +kernel
theorem dX6_alikeByDrop_53 : decode cX6_alikeByDrop 53 = .ok (.iload 5, 2) := by decide +kernel
theorem dX6_alikeByDrop_55 : decode cX6_alikeByDrop 55 = .ok (.invokestatic 356, 3) := by decide +kernel
theorem dX6_alikeByDrop_58 : decode cX6_alikeByDrop 58 = .ok (.ireturn, 1) := by decide +kernel
theorem dX6_alikeByHigh_0 : decode cX6_alikeByHigh 0 = .ok (.iconst 0, 1) := by decide +kernel
theorem dX6_alikeByHigh_1 : decode cX6_alikeByHigh 1 = .ok (.istore 4, 2) := by decide +kernel
theorem dX6_alikeByHigh_3 : decode cX6_alikeByHigh 3 = .ok (.iconst 0, 1) := by decide +kernel
theorem dX6_alikeByHigh_4 : decode cX6_alikeByHigh 4 = .ok (.istore 5, 2) := by decide +kernel
theorem dX6_alikeByHigh_6 : decode cX6_alikeByHigh 6 = .ok (.iload 5, 2) := by decide +kernel
theorem dX6_alikeByHigh_8 : decode cX6_alikeByHigh 8 = .ok (.bipush 6, 2) := by decide +kernel
theorem dX6_alikeByHigh_10 : decode cX6_alikeByHigh 10 = .ok (.if_icmp .ge 37, 3) := by decide +kernel
theorem dX6_alikeByHigh_13 : decode cX6_alikeByHigh 13 = .ok (.iload_n 1, 1) := by decide +kernel
theorem dX6_alikeByHigh_14 : decode cX6_alikeByHigh 14 = .ok (.iload 5, 2) := by decide +kernel
theorem dX6_alikeByHigh_16 : decode cX6_alikeByHigh 16 = .ok (.invokestatic 308, 3) := by decide +kernel
theorem dX6_alikeByHigh_19 : decode cX6_alikeByHigh 19 = .ok (.ifCond .eq 22, 3) := by decide +kernel
theorem dX6_alikeByHigh_22 : decode cX6_alikeByHigh 22 = .ok (.aload_n 0, 1) := by decide +kernel
theorem dX6_alikeByHigh_23 : decode cX6_alikeByHigh 23 = .ok (.getfield 60, 3) := by decide +kernel
theorem dX6_alikeByHigh_26 : decode cX6_alikeByHigh 26 = .ok (.iload 4, 2) := by decide +kernel
theorem dX6_alikeByHigh_28 : decode cX6_alikeByHigh 28 = .ok (.iload 5, 2) := by decide +kernel
theorem dX6_alikeByHigh_30 : decode cX6_alikeByHigh 30 = .ok (.iload_n 2, 1) := by decide +kernel
theorem dX6_alikeByHigh_31 : decode cX6_alikeByHigh 31 = .ok (.iload_n 3, 1) := by decide +kernel
theorem dX6_alikeByHigh_32 : decode cX6_alikeByHigh 32 = .ok (.invokestatic 353, 3) := by decide +kernel
theorem dX6_alikeByHigh_35 : decode cX6_alikeByHigh 35 = .ok (.invokestatic 151, 3) := by decide +kernel
theorem dX6_alikeByHigh_38 : decode cX6_alikeByHigh 38 = .ok (.iinc 4 1, 3) := by decide +kernel
theorem dX6_alikeByHigh_41 : decode cX6_alikeByHigh 41 = .ok (.iinc 5 1, 3) := by decide +kernel
theorem dX6_alikeByHigh_44 : decode cX6_alikeByHigh 44 = .ok (.goto (-38), 3) := by decide +kernel
theorem dX6_alikeByHigh_47 : decode cX6_alikeByHigh 47 = .ok (.aload_n 0, 1) := by decide +kernel
theorem dX6_alikeByHigh_48 : decode cX6_alikeByHigh 48 = .ok (.getfield 60, 3) := by decide +kernel
theorem dX6_alikeByHigh_51 : decode cX6_alikeByHigh 51 = .ok (.iload 4, 2) := by decide +kernel
theorem dX6_alikeByHigh_53 : decode cX6_alikeByHigh 53 = .ok (.invokestatic 356, 3) := by decide +kernel
theorem dX6_alikeByHigh_56 : decode cX6_alikeByHigh 56 = .ok (.ireturn, 1) := by decide +kernel
theorem dX6_freshHigh_0 : decode cX6_freshHigh 0 = .ok (.aload_n 0, 1) := by decide +kernel
theorem dX6_freshHigh_1 : decode cX6_freshHigh 1 = .ok (.getfield 10, 3) := by decide +kernel
theorem dX6_freshHigh_4 : decode cX6_freshHigh 4 = .ok (.getfield 359, 3) := by decide +kernel
theorem dX6_freshHigh_7 : decode cX6_freshHigh 7 = .ok (.iload_n 1, 1) := by decide +kernel
theorem dX6_freshHigh_8 : decode cX6_freshHigh 8 = .ok (.invokestatic 195, 3) := by decide +kernel
theorem dX6_freshHigh_11 : decode cX6_freshHigh 11 = .ok (.iload 4, 2) := by decide +kernel
theorem dX6_freshHigh_13 : decode cX6_freshHigh 13 = .ok (.aload_n 0, 1) := by decide +kernel
theorem dX6_freshHigh_14 : decode cX6_freshHigh 14 = .ok (.getfield 10, 3) := by decide +kernel
theorem dX6_freshHigh_17 : decode cX6_freshHigh 17 = .ok (.getfield 362, 3) := by decide +kernel
theorem dX6_freshHigh_20 : decode cX6_freshHigh 20 = .ok (.iload_n 1, 1) := by decide +kernel
theorem dX6_freshHigh_21 : decode cX6_freshHigh 21 = .ok (.invokestatic 195, 3) := by decide +kernel
theorem dX6_freshHigh_24 : decode cX6_freshHigh 24 = .ok (.iload_n 2, 1) := by decide +kernel
theorem dX6_freshHigh_25 : decode cX6_freshHigh 25 = .ok (.iload_n 3, 1) := by decide +kernel
theorem dX6_freshHigh_26 : decode cX6_freshHigh 26 = .ok (.iconst 0, 1) := by decide +kernel
theorem dX6_freshHigh_27 : decode cX6_freshHigh 27 = .ok (.invokestatic 347, 3) := by decide +kernel
theorem dX6_freshHigh_30 : decode cX6_freshHigh 30 = .ok (.isub, 1) := by decide +kernel
theorem dX6_freshHigh_31 : decode cX6_freshHigh 31 = .ok (.iconst 0, 1) := by decide +kernel
theorem dX6_freshHigh_32 : decode cX6_freshHigh 32 = .ok (.invokestatic 353, 3) := by decide +kernel
theorem dX6_freshHigh_35 : decode cX6_freshHigh 35 = .ok (.ireturn, 1) := by decide +kernel
