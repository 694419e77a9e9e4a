theorem dX7_in_0 : decode cX7_in 0 = .ok (.lload_n 0, 1) := by decide +kernel
theorem dX7_in_1 : decode cX7_in 1 = .ok (.lload_n 2, 1) := by decide +kernel
theorem dX7_in_2 : decode cX7_in 2 = .ok (.lcmp, 1) := by decide +kernel
theorem dX7_in_3 : decode cX7_in 3 = .ok (.ifCond .lt 14, 3) := by decide +kernel
theorem dX7_in_6 : decode cX7_in 6 = .ok (.lload_n 0, 1) := by decide +kernel
theorem dX7_in_7 : decode cX7_in 7 = .ok (.lload 4, 2) := by decide +kernel
theorem dX7_in_9 : decode cX7_in 9 = .ok (.lcmp, 1) := by decide +kernel
theorem dX7_in_10 : decode cX7_in 10 = .ok (.ifCond .gt 7, 3) := by decide +kernel
theorem dX7_in_13 : decode cX7_in 13 = .ok (.iconst 1, 1) := by decide +kernel
theorem dX7_in_14 : decode cX7_in 14 = .ok (.goto 4, 3) := by decide +kernel
theorem dX7_in_17 : decode cX7_in 17 = .ok (.iconst 0, 1) := by decide +kernel
theorem dX7_in_18 : decode cX7_in 18 = .ok (.ireturn, 1) := by decide +kernel
theorem dX7_init_0 : decode cX7_init 0 = .ok (.aload_n 0, 1) := by decide +kernel
theorem dX7_init_1 : decode cX7_init 1 = .ok (.invokespecial 1, 3) := by decide +kernel
theorem dX7_init_4 : decode cX7_init 4 = .ok (.aload_n 0, 1) := by decide +kernel
theorem dX7_init_5 : decode cX7_init 5 = .ok (.sipush 340, 3) := by decide +kernel
theorem dX7_init_8 : decode cX7_init 8 = .ok (.newarray .int, 2) := by decide +kernel
theorem dX7_init_10 : decode cX7_init 10 = .ok (.putfield 7, 3) := by decide +kernel
theorem dX7_init_13 : decode cX7_init 13 = .ok (.aload_n 0, 1) := by decide +kernel
theorem dX7_init_14 : decode cX7_init 14 = .ok (.lconst 1, 1) := by decide +kernel
theorem dX7_init_15 : decode cX7_init 15 = .ok (.putfield 13, 3) := by decide +kernel
theorem dX7_init_18 : decode cX7_init 18 = .ok (.aload_n 0, 1) := by decide +kernel
theorem dX7_init_19 : decode cX7_init 19 = .ok (.sipush 150, 3) := by decide +kernel
theorem dX7_init_22 : decode cX7_init 22 = .ok (.newarray .int, 2) := by decide +kernel
theorem dX7_init_24 : decode cX7_init 24 = .ok (.putfield 17, 3) := by decide +kernel
theorem dX7_init_27 : decode cX7_init 27 = .ok (.aload_n 0, 1) := by decide +kernel
theorem dX7_init_28 : decode cX7_init 28 = .ok (.sipush 340, 3) := by decide +kernel
theorem dX7_init_31 : decode cX7_init 31 = .ok (.newarray .int, 2) := by decide +kernel
theorem dX7_init_33 : decode cX7_init 33 = .ok (.putfield 20, 3) := by decide +kernel
theorem dX7_init_36 : decode cX7_init 36 = .ok (.aload_n 0, 1) := by decide +kernel
theorem dX7_init_37 : decode cX7_init 37 = .ok (.bipush 53, 2) := by decide +kernel
theorem dX7_init_39 : decode cX7_init 39 = .ok (.newarray .int, 2) := by decide +kernel
theorem dX7_init_41 : decode cX7_init 41 = .ok (.putfield 23, 3) := by decide +kernel
theorem dX7_init_44 : decode cX7_init 44 = .ok (.aload_n 0, 1) := by decide +kernel
theorem dX7_init_45 : decode cX7_init 45 = .ok (.bipush 10, 2) := by decide +kernel
theorem dX7_init_47 : decode cX7_init 47 = .ok (.newarray .int, 2) := by decide +kernel
theorem dX7_init_49 : decode cX7_init 49 = .ok (.putfield 26, 3) := by decide +kernel
theorem dX7_init_52 : decode cX7_init 52 = .ok (.aload_n 0, 1) := by decide +kernel
theorem dX7_init_53 : decode cX7_init 53 = .ok (.bipush 25, 2) := by decide +kernel
theorem dX7_init_55 : decode cX7_init 55 = .ok (.newarray .int, 2) := by decide +kernel
theorem dX7_init_57 : decode cX7_init 57 = .ok (.putfield 29, 3) := by decide +kernel
theorem dX7_init_60 : decode cX7_init 60 = .ok (.aload_n 0, 1) := by decide +kernel
theorem dX7_init_61 : decode cX7_init 61 = .ok (.bipush 25, 2) := by decide +kernel
theorem dX7_init_63 : decode cX7_init 63 = .ok (.newarray .int, 2) := by decide +kernel
theorem dX7_init_65 : decode cX7_init 65 = .ok (.putfield 32, 3) := by decide +kernel
theorem dX7_init_68 : decode cX7_init 68 = .ok (.aload_n 0, 1) := by decide +kernel
theorem dX7_init_69 : decode cX7_init 69 = .ok (.sipush 680, 3) := by decide +kernel
theorem dX7_init_72 : decode cX7_init 72 = .ok (.newarray .int, 2) := by decide +kernel
theorem dX7_init_74 : decode cX7_init 74 = .ok (.putfield 35, 3) := by decide +kernel
theorem dX7_init_77 : decode cX7_init 77 = .ok (.aload_n 0, 1) := by decide +kernel
theorem dX7_init_78 : decode cX7_init 78 = .ok (.bipush 20, 2) := by decide +kernel
theorem dX7_init_80 : decode cX7_init 80 = .ok (.invokevirtual 38, 3) := by decide +kernel
theorem dX7_init_83 : decode cX7_init 83 = .ok (.return_, 1) := by decide +kernel
theorem dX7_begins_0 : decode cX7_begins 0 = .ok (.iconst 0, 1) := by decide +kernel
theorem dX7_begins_1 : decode cX7_begins 1 = .ok (.istore_n 2, 1) := by decide +kernel
theorem dX7_begins_2 : decode cX7_begins 2 = .ok (.iload_n 2, 1) := by decide +kernel
theorem dX7_begins_3 : decode cX7_begins 3 = .ok (.sipush 340, 3) := by decide +kernel
theorem dX7_begins_6 : decode cX7_begins 6 = .ok (.if_icmp .ge 16, 3) := by decide +kernel
theorem dX7_begins_9 : decode cX7_begins 9 = .ok (.aload_n 0, 1) := by decide +kernel
theorem dX7_begins_10 : decode cX7_begins 10 = .ok (.getfield 7, 3) := by decide +kernel
theorem dX7_begins_13 : decode cX7_begins 13 = .ok (.iload_n 2, 1) := by decide +kernel
theorem dX7_begins_14 : decode cX7_begins 14 = .ok (.iconst 0, 1) := by decide +kernel
theorem dX7_begins_15 : decode cX7_begins 15 = .ok (.iastore, 1) := by decide +kernel
theorem dX7_begins_16 : decode cX7_begins 16 = .ok (.iinc 2 1, 3) := by decide +kernel
theorem dX7_begins_19 : decode cX7_begins 19 = .ok (.goto (-17), 3) := by decide +kernel
theorem dX7_begins_22 : decode cX7_begins 22 = .ok (.aload_n 0, 1) := by decide +kernel
theorem dX7_begins_23 : decode cX7_begins 23 = .ok (.getfield 7, 3) := by decide +kernel
theorem dX7_begins_26 : decode cX7_begins 26 = .ok (.iconst 1, 1) := by decide +kernel
theorem dX7_begins_27 : decode cX7_begins 27 = .ok (.iload_n 1, 1) := by decide +kernel
theorem dX7_begins_28 : decode cX7_begins 28 = .ok (.iastore, 1) := by decide +kernel
theorem dX7_begins_29 : decode cX7_begins 29 = .ok (.iconst 0, 1) := by decide +kernel
theorem dX7_begins_30 : decode cX7_begins 30 = .ok (.istore_n 2, 1) := by decide +kernel
theorem dX7_begins_31 : decode cX7_begins 31 = .ok (.iload_n 2, 1) := by decide +kernel
theorem dX7_begins_32 : decode cX7_begins 32 = .ok (.bipush 8, 2) := by decide +kernel
theorem dX7_begins_34 : decode cX7_begins 34 = .ok (.if_icmp .ge 21, 3) := by decide +kernel
theorem dX7_begins_37 : decode cX7_begins 37 = .ok (.aload_n 0, 1) := by decide +kernel
theorem dX7_begins_38 : decode cX7_begins 38 = .ok (.getfield 7, 3) := by decide +kernel
theorem dX7_begins_41 : decode cX7_begins 41 = .ok (.bipush 54, 2) := by decide +kernel
theorem dX7_begins_43 : decode cX7_begins 43 = .ok (.iconst 2, 1) := by decide +kernel
theorem dX7_begins_44 : decode cX7_begins 44 = .ok (.iload_n 2, 1) := by decide +kernel
theorem dX7_begins_45 : decode cX7_begins 45 = .ok (.imul, 1) := by decide +kernel
theorem dX7_begins_46 : decode cX7_begins 46 = .ok (.iadd, 1) := by decide +kernel
theorem dX7_begins_47 : decode cX7_begins 47 = .ok (.iconst 4, 1) := by decide +kernel
theorem dX7_begins_48 : decode cX7_begins 48 = .ok (.iastore, 1) := by decide +kernel
theorem dX7_begins_49 : decode cX7_begins 49 = .ok (.iinc 2 1, 3) := by decide +kernel
theorem dX7_begins_52 : decode cX7_begins 52 = .ok (.goto (-21), 3) := by decide +kernel
theorem dX7_begins_55 : decode cX7_begins 55 = .ok (.return_, 1) := by decide +kernel
theorem dX7_bad_0 : decode cX7_bad 0 = .ok (.aload_n 0, 1) := by decide +kernel
theorem dX7_bad_1 : decode cX7_bad 1 = .ok (.dup, 1) := by decide +kernel
theorem dX7_bad_2 : decode cX7_bad 2 = .ok (.getfield 42, 3) := by decide +kernel
theorem dX7_bad_5 : decode cX7_bad 5 = .ok (.iconst 1, 1) := by decide +kernel
theorem dX7_bad_6 : decode cX7_bad 6 = .ok (.iadd, 1) := by decide +kernel
theorem dX7_bad_7 : decode cX7_bad 7 = .ok (.putfield 42, 3) := by decide +kernel
theorem dX7_bad_10 : decode cX7_bad 10 = .ok (.sipush (-1002), 3) := by decide +kernel
theorem dX7_bad_13 : decode cX7_bad 13 = .ok (.ireturn, 1) := by decide +kernel
theorem dX7_badTen_0 : decode cX7_badTen 0 = .ok (.aload_n 0, 1) := by decide +kernel
theorem dX7_badTen_1 : decode cX7_badTen 1 = .ok (.dup, 1) := by decide +kernel
theorem dX7_badTen_2 : decode cX7_badTen 2 = .ok (.getfield 42, 3) := by decide +kernel
theorem dX7_badTen_5 : decode cX7_badTen 5 = .ok (.iconst 1, 1) := by decide +kernel
theorem dX7_badTen_6 : decode cX7_badTen 6 = .ok (.iadd, 1) := by decide +kernel
theorem dX7_badTen_7 : decode cX7_badTen 7 = .ok (.putfield 42, 3) := by decide +kernel
theorem dX7_badTen_10 : decode cX7_badTen 10 = .ok (.bipush (-10), 2) := by decide +kernel
theorem dX7_badTen_12 : decode cX7_badTen 12 = .ok (.ireturn, 1) := by decide +kernel
theorem dX7_no_0 : decode cX7_no 0 = .ok (.aload_n 0, 1) := by decide +kernel
theorem dX7_no_1 : decode cX7_no 1 = .ok (.dup, 1) := by decide +kernel
theorem dX7_no_2 : decode cX7_no 2 = .ok (.getfield 46, 3) := by decide +kernel
theorem dX7_no_5 : decode cX7_no 5 = .ok (.iconst 1, 1) := by decide +kernel
theorem dX7_no_6 : decode cX7_no 6 = .ok (.iadd, 1) := by decide +kernel
theorem dX7_no_7 : decode cX7_no 7 = .ok (.putfield 46, 3) := by decide +kernel
theorem dX7_no_10 : decode cX7_no 10 = .ok (.sipush (-1003), 3) := by decide +kernel
theorem dX7_no_13 : decode cX7_no 13 = .ok (.ireturn, 1) := by decide +kernel
theorem dX7_full_0 : decode cX7_full 0 = .ok (.aload_n 0, 1) := by decide +kernel
theorem dX7_full_1 : decode cX7_full 1 = .ok (.dup, 1) := by decide +kernel
theorem dX7_full_2 : decode cX7_full 2 = .ok (.getfield 49, 3) := by decide +kernel
theorem dX7_full_5 : decode cX7_full 5 = .ok (.iconst 1, 1) := by decide +kernel
theorem dX7_full_6 : decode cX7_full 6 = .ok (.iadd, 1) := by decide +kernel
theorem dX7_full_7 : decode cX7_full 7 = .ok (.putfield 49, 3) := by decide +kernel
theorem dX7_full_10 : decode cX7_full 10 = .ok (.sipush (-1004), 3) := by decide +kernel
theorem dX7_full_13 : decode cX7_full 13 = .ok (.ireturn, 1) := by decide +kernel
theorem dX7_drops_0 : decode cX7_drops 0 = .ok (.iload_n 0, 1) := by decide +kernel
theorem dX7_drops_1 : decode cX7_drops 1 = .ok (.tableswitch 72 0 4 #[35, 37, 43, 47, 61], 35) := by decide +kernel
theorem dX7_drops_36 : decode cX7_drops 36 = .ok (.iload_n 1, 1) := by decide +kernel
theorem dX7_drops_37 : decode cX7_drops 37 = .ok (.ireturn, 1) := by decide +kernel
theorem dX7_drops_38 : decode cX7_drops 38 = .ok (.iload_n 1, 1) := by decide +kernel
theorem dX7_drops_39 : decode cX7_drops 39 = .ok (.iload_n 2, 1) := by decide +kernel
theorem dX7_drops_40 : decode cX7_drops 40 = .ok (.iconst 3, 1) := by decide +kernel
theorem dX7_drops_41 : decode cX7_drops 41 = .ok (.idiv, 1) := by decide +kernel
theorem dX7_drops_42 : decode cX7_drops 42 = .ok (.iadd, 1) := by decide +kernel
theorem dX7_drops_43 : decode cX7_drops 43 = .ok (.ireturn, 1) := by decide +kernel
theorem dX7_drops_44 : decode cX7_drops 44 = .ok (.iload_n 1, 1) := by decide +kernel
theorem dX7_drops_45 : decode cX7_drops 45 = .ok (.iload_n 2, 1) := by decide +kernel
theorem dX7_drops_46 : decode cX7_drops 46 = .ok (.iadd, 1) := by decide +kernel
theorem dX7_drops_47 : decode cX7_drops 47 = .ok (.ireturn, 1) := by decide +kernel
theorem dX7_drops_48 : decode cX7_drops 48 = .ok (.iload_n 1, 1) := by decide +kernel
theorem dX7_drops_49 : decode cX7_drops 49 = .ok (.iconst 2, 1) := by decide +kernel
theorem dX7_drops_50 : decode cX7_drops 50 = .ok (.irem, 1) := by decide +kernel
theorem dX7_drops_51 : decode cX7_drops 51 = .ok (.ifCond .ne 9, 3) := by decide +kernel
theorem dX7_drops_54 : decode cX7_drops 54 = .ok (.iload_n 1, 1) := by decide +kernel
theorem dX7_drops_55 : decode cX7_drops 55 = .ok (.iconst 1, 1) := by decide +kernel
theorem dX7_drops_56 : decode cX7_drops 56 = .ok (.isub, 1) := by decide +kernel
theorem dX7_drops_57 : decode cX7_drops 57 = .ok (.goto 4, 3) := by decide +kernel
theorem dX7_drops_60 : decode cX7_drops 60 = .ok (.iload_n 1, 1) := by decide +kernel
theorem dX7_drops_61 : decode cX7_drops 61 = .ok (.ireturn, 1) := by decide +kernel
theorem dX7_drops_62 : decode cX7_drops 62 = .ok (.iload_n 1, 1) := by decide +kernel
theorem dX7_drops_63 : decode cX7_drops 63 = .ok (.iload_n 2, 1) := by decide +kernel
theorem dX7_drops_64 : decode cX7_drops 64 = .ok (.iconst 3, 1) := by decide +kernel
theorem dX7_drops_65 : decode cX7_drops 65 = .ok (.idiv, 1) := by decide +kernel
theorem dX7_drops_66 : decode cX7_drops 66 = .ok (.iadd, 1) := by decide +kernel
theorem dX7_drops_67 : decode cX7_drops 67 = .ok (.iload_n 3, 1) := by decide +kernel
theorem dX7_drops_68 : decode cX7_drops 68 = .ok (.bipush 10, 2) := by decide +kernel
theorem dX7_drops_70 : decode cX7_drops 70 = .ok (.idiv, 1) := by decide +kernel
theorem dX7_drops_71 : decode cX7_drops 71 = .ok (.iadd, 1) := by decide +kernel
theorem dX7_drops_72 : decode cX7_drops 72 = .ok (.ireturn, 1) := by decide +kernel
theorem dX7_drops_73 : decode cX7_drops 73 = .ok (.iload_n 1, 1) := by decide +kernel
theorem dX7_drops_74 : decode cX7_drops 74 = .ok (.iload_n 2, 1) := by decide +kernel
theorem dX7_drops_75 : decode cX7_drops 75 = .ok (.iadd, 1) := by decide +kernel
theorem dX7_drops_76 : decode cX7_drops 76 = .ok (.iconst 2, 1) := by decide +kernel
theorem dX7_drops_77 : decode cX7_drops 77 = .ok (.iload_n 1, 1) := by decide +kernel
theorem dX7_drops_78 : decode cX7_drops 78 = .ok (.imul, 1) := by decide +kernel
theorem dX7_drops_79 : decode cX7_drops 79 = .ok (.if_icmp .le 9, 3) := by decide +kernel
theorem dX7_drops_82 : decode cX7_drops 82 = .ok (.iconst 2, 1) := by decide +kernel
theorem dX7_drops_83 : decode cX7_drops 83 = .ok (.iload_n 1, 1) := by decide +kernel
theorem dX7_drops_84 : decode cX7_drops 84 = .ok (.imul, 1) := by decide +kernel
theorem dX7_drops_85 : decode cX7_drops 85 = .ok (.goto 6, 3) := by decide +kernel
theorem dX7_drops_88 : decode cX7_drops 88 = .ok (.iload_n 1, 1) := by decide +kernel
theorem dX7_drops_89 : decode cX7_drops 89 = .ok (.iload_n 2, 1) := by decide +kernel
theorem dX7_drops_90 : decode cX7_drops 90 = .ok (.iadd, 1) := by decide +kernel
theorem dX7_drops_91 : decode cX7_drops 91 = .ok (.ireturn, 1) := by decide +kernel
theorem dX7_comesTo_0 : decode cX7_comesTo 0 = .ok (.iload_n 1, 1) := by decide +kernel
theorem dX7_comesTo_1 : decode cX7_comesTo 1 = .ok (.ifCond .ge 7, 3) := by decide +kernel
theorem dX7_comesTo_4 : decode cX7_comesTo 4 = .ok (.iconst 0, 1) := by decide +kernel
theorem dX7_comesTo_5 : decode cX7_comesTo 5 = .ok (.goto 15, 3) := by decide +kernel
theorem dX7_comesTo_8 : decode cX7_comesTo 8 = .ok (.iload_n 1, 1) := by decide +kernel
theorem dX7_comesTo_9 : decode cX7_comesTo 9 = .ok (.bipush 9, 2) := by decide +kernel
theorem dX7_comesTo_11 : decode cX7_comesTo 11 = .ok (.if_icmp .le 8, 3) := by decide +kernel
theorem dX7_comesTo_14 : decode cX7_comesTo 14 = .ok (.bipush 9, 2) := by decide +kernel
theorem dX7_comesTo_16 : decode cX7_comesTo 16 = .ok (.goto 4, 3) := by decide +kernel
theorem dX7_comesTo_19 : decode cX7_comesTo 19 = .ok (.iload_n 1, 1) := by decide +kernel
theorem dX7_comesTo_20 : decode cX7_comesTo 20 = .ok (.istore_n 3, 1) := by decide +kernel
theorem dX7_comesTo_21 : decode cX7_comesTo 21 = .ok (.iload_n 1, 1) := by decide +kernel
theorem dX7_comesTo_22 : decode cX7_comesTo 22 = .ok (.iconst 2, 1) := by decide +kernel
theorem dX7_comesTo_23 : decode cX7_comesTo 23 = .ok (.if_icmp .ge 7, 3) := by decide +kernel
theorem dX7_comesTo_26 : decode cX7_comesTo 26 = .ok (.iconst 2, 1) := by decide +kernel
theorem dX7_comesTo_27 : decode cX7_comesTo 27 = .ok (.goto 4, 3) := by decide +kernel
theorem dX7_comesTo_30 : decode cX7_comesTo 30 = .ok (.iload_n 1, 1) := by decide +kernel
theorem dX7_comesTo_31 : decode cX7_comesTo 31 = .ok (.istore 4, 2) := by decide +kernel
theorem dX7_comesTo_33 : decode cX7_comesTo 33 = .ok (.iload_n 0, 1) := by decide +kernel
theorem dX7_comesTo_34 : decode cX7_comesTo 34 = .ok (.tableswitch 60 0 4 #[34, 36, 39, 41, 45], 34) := by decide +kernel
theorem dX7_comesTo_68 : decode cX7_comesTo 68 = .ok (.iload_n 1, 1) := by decide +kernel
theorem dX7_comesTo_69 : decode cX7_comesTo 69 = .ok (.ireturn, 1) := by decide +kernel
theorem dX7_comesTo_70 : decode cX7_comesTo 70 = .ok (.iload 4, 2) := by decide +kernel
theorem dX7_comesTo_72 : decode cX7_comesTo 72 = .ok (.ireturn, 1) := by decide +kernel
theorem dX7_comesTo_73 : decode cX7_comesTo 73 = .ok (.iload_n 3, 1) := by decide +kernel
theorem dX7_comesTo_74 : decode cX7_comesTo 74 = .ok (.ireturn, 1) := by decide +kernel
theorem dX7_comesTo_75 : decode cX7_comesTo 75 = .ok (.iload_n 3, 1) := by decide +kernel
theorem dX7_comesTo_76 : decode cX7_comesTo 76 = .ok (.iconst 2, 1) := by decide +kernel
theorem dX7_comesTo_77 : decode cX7_comesTo 77 = .ok (.idiv, 1) := by decide +kernel
theorem dX7_comesTo_78 : decode cX7_comesTo 78 = .ok (.ireturn, 1) := by decide +kernel
theorem dX7_comesTo_79 : decode cX7_comesTo 79 = .ok (.iload_n 2, 1) := by decide +kernel
theorem dX7_comesTo_80 : decode cX7_comesTo 80 = .ok (.iconst 2, 1) := by decide +kernel
theorem dX7_comesTo_81 : decode cX7_comesTo 81 = .ok (.irem, 1) := by decide +kernel
theorem dX7_comesTo_82 : decode cX7_comesTo 82 = .ok (.iconst 1, 1) := by decide +kernel
theorem dX7_comesTo_83 : decode cX7_comesTo 83 = .ok (.if_icmp .ne 9, 3) := by decide +kernel
theorem dX7_comesTo_86 : decode cX7_comesTo 86 = .ok (.iload_n 1, 1) := by decide +kernel
theorem dX7_comesTo_87 : decode cX7_comesTo 87 = .ok (.iconst 1, 1) := by decide +kernel
theorem dX7_comesTo_88 : decode cX7_comesTo 88 = .ok (.isub, 1) := by decide +kernel
theorem dX7_comesTo_89 : decode cX7_comesTo 89 = .ok (.goto 4, 3) := by decide +kernel
theorem dX7_comesTo_92 : decode cX7_comesTo 92 = .ok (.iload_n 1, 1) := by decide +kernel
theorem dX7_comesTo_93 : decode cX7_comesTo 93 = .ok (.ireturn, 1) := by decide +kernel
theorem dX7_comesTo_94 : decode cX7_comesTo 94 = .ok (.iload 4, 2) := by decide +kernel
theorem dX7_comesTo_96 : decode cX7_comesTo 96 = .ok (.iconst 3, 1) := by decide +kernel
theorem dX7_comesTo_97 : decode cX7_comesTo 97 = .ok (.iadd, 1) := by decide +kernel
theorem dX7_comesTo_98 : decode cX7_comesTo 98 = .ok (.ireturn, 1) := by decide +kernel
theorem dX7_limbOf_0 : decode cX7_limbOf 0 = .ok (.aload_n 0, 1) := by decide +kernel
theorem dX7_limbOf_1 : decode cX7_limbOf 1 = .ok (.getfield 7, 3) := by decide +kernel
theorem dX7_limbOf_4 : decode cX7_limbOf 4 = .ok (.iconst 4, 1) := by decide +kernel
theorem dX7_limbOf_5 : decode cX7_limbOf 5 = .ok (.bipush 7, 2) := by decide +kernel
theorem dX7_limbOf_7 : decode cX7_limbOf 7 = .ok (.iload_n 1, 1) := by decide +kernel
theorem dX7_limbOf_8 : decode cX7_limbOf 8 = .ok (.imul, 1) := by decide +kernel
theorem dX7_limbOf_9 : decode cX7_limbOf 9 = .ok (.iadd, 1) := by decide +kernel
theorem dX7_limbOf_10 : decode cX7_limbOf 10 = .ok (.iload_n 2, 1) := by decide +kernel
theorem dX7_limbOf_11 : decode cX7_limbOf 11 = .ok (.iadd, 1) := by decide +kernel
theorem dX7_limbOf_12 : decode cX7_limbOf 12 = .ok (.iaload, 1) := by decide +kernel
theorem dX7_limbOf_13 : decode cX7_limbOf 13 = .ok (.ireturn, 1) := by decide +kernel
theorem dX7_sets_0 : decode cX7_sets 0 = .ok (.aload_n 0, 1) := by decide +kernel
theorem dX7_sets_1 : decode cX7_sets 1 = .ok (.getfield 7, 3) := by decide +kernel
theorem dX7_sets_4 : decode cX7_sets 4 = .ok (.iconst 4, 1) := by decide +kernel
theorem dX7_sets_5 : decode cX7_sets 5 = .ok (.bipush 7, 2) := by decide +kernel
theorem dX7_sets_7 : decode cX7_sets 7 = .ok (.iload_n 1, 1) := by decide +kernel
theorem dX7_sets_8 : decode cX7_sets 8 = .ok (.imul, 1) := by decide +kernel
theorem dX7_sets_9 : decode cX7_sets 9 = .ok (.iadd, 1) := by decide +kernel
theorem dX7_sets_10 : decode cX7_sets 10 = .ok (.iload_n 2, 1) := by decide +kernel
theorem dX7_sets_11 : decode cX7_sets 11 = .ok (.iadd, 1) := by decide +kernel
theorem dX7_sets_12 : decode cX7_sets 12 = .ok (.iload_n 3, 1) := by decide +kernel
theorem dX7_sets_13 : decode cX7_sets 13 = .ok (.iastore, 1) := by decide +kernel
theorem dX7_sets_14 : decode cX7_sets 14 = .ok (.return_, 1) := by decide +kernel
theorem dX7_isLimb_0 : decode cX7_isLimb 0 = .ok (.iload_n 1, 1) := by decide +kernel
theorem dX7_isLimb_1 : decode cX7_isLimb 1 = .ok (.i2l, 1) := by decide +kernel
theorem dX7_isLimb_2 : decode cX7_isLimb 2 = .ok (.lconst 0, 1) := by decide +kernel
theorem dX7_isLimb_3 : decode cX7_isLimb 3 = .ok (.aload_n 0, 1) := by decide +kernel
theorem dX7_isLimb_4 : decode cX7_isLimb 4 = .ok (.getfield 7, 3) := by decide +kernel
theorem dX7_isLimb_7 : decode cX7_isLimb 7 = .ok (.iconst 0, 1) := by decide +kernel
theorem dX7_isLimb_8 : decode cX7_isLimb 8 = .ok (.iaload, 1) := by decide +kernel
theorem dX7_isLimb_9 : decode cX7_isLimb 9 = .ok (.iconst 1, 1) := by decide +kernel
theorem dX7_isLimb_10 : decode cX7_isLimb 10 = .ok (.isub, 1) := by decide +kernel
theorem dX7_isLimb_11 : decode cX7_isLimb 11 = .ok (.i2l, 1) := by decide +kernel
theorem dX7_isLimb_12 : decode cX7_isLimb 12 = .ok (.invokestatic 52, 3) := by decide +kernel
theorem dX7_isLimb_15 : decode cX7_isLimb 15 = .ok (.ireturn, 1) := by decide +kernel
theorem dX7_isSnapped_0 : decode cX7_isSnapped 0 = .ok (.aload_n 0, 1) := by decide +kernel
theorem dX7_isSnapped_1 : decode cX7_isSnapped 1 = .ok (.iload_n 1, 1) := by decide +kernel
theorem dX7_isSnapped_2 : decode cX7_isSnapped 2 = .ok (.bipush 6, 2) := by decide +kernel
theorem dX7_isSnapped_4 : decode cX7_isSnapped 4 = .ok (.invokevirtual 56, 3) := by decide +kernel
theorem dX7_isSnapped_7 : decode cX7_isSnapped 7 = .ok (.iconst 1, 1) := by decide +kernel
theorem dX7_isSnapped_8 : decode cX7_isSnapped 8 = .ok (.if_icmp .ne 7, 3) := by decide +kernel
theorem dX7_isSnapped_11 : decode cX7_isSnapped 11 = .ok (.iconst 1, 1) := by decide +kernel
theorem dX7_isSnapped_12 : decode cX7_isSnapped 12 = .ok (.goto 4, 3) := by decide +kernel
theorem dX7_isSnapped_15 : decode cX7_isSnapped 15 = .ok (.iconst 0, 1) := by decide +kernel
theorem dX7_isSnapped_16 : decode cX7_isSnapped 16 = .ok (.ireturn, 1) := by decide +kernel
theorem dX7_highIn_0 : decode cX7_highIn 0 = .ok (.aload_n 0, 1) := by decide +kernel
theorem dX7_highIn_1 : decode cX7_highIn 1 = .ok (.iload_n 1, 1) := by decide +kernel
theorem dX7_highIn_2 : decode cX7_highIn 2 = .ok (.invokevirtual 60, 3) := by decide +kernel
theorem dX7_highIn_5 : decode cX7_highIn 5 = .ok (.ifCond .eq 6, 3) := by decide +kernel
theorem dX7_highIn_8 : decode cX7_highIn 8 = .ok (.bipush (-20), 2) := by decide +kernel
theorem dX7_highIn_10 : decode cX7_highIn 10 = .ok (.ireturn, 1) := by decide +kernel
theorem dX7_highIn_11 : decode cX7_highIn 11 = .ok (.aload_n 0, 1) := by decide +kernel
theorem dX7_highIn_12 : decode cX7_highIn 12 = .ok (.getfield 7, 3) := by decide +kernel
theorem dX7_highIn_15 : decode cX7_highIn 15 = .ok (.iconst 1, 1) := by decide +kernel
theorem dX7_highIn_16 : decode cX7_highIn 16 = .ok (.iaload, 1) := by decide +kernel
theorem dX7_highIn_17 : decode cX7_highIn 17 = .ok (.aload_n 0, 1) := by decide +kernel
theorem dX7_highIn_18 : decode cX7_highIn 18 = .ok (.getfield 7, 3) := by decide +kernel
theorem dX7_highIn_21 : decode cX7_highIn 21 = .ok (.iconst 2, 1) := by decide +kernel
theorem dX7_highIn_22 : decode cX7_highIn 22 = .ok (.iaload, 1) := by decide +kernel
theorem dX7_highIn_23 : decode cX7_highIn 23 = .ok (.iload_n 2, 1) := by decide +kernel
theorem dX7_highIn_24 : decode cX7_highIn 24 = .ok (.iconst 4, 1) := by decide +kernel
theorem dX7_highIn_25 : decode cX7_highIn 25 = .ok (.isub, 1) := by decide +kernel
theorem dX7_highIn_26 : decode cX7_highIn 26 = .ok (.imul, 1) := by decide +kernel
theorem dX7_highIn_27 : decode cX7_highIn 27 = .ok (.iadd, 1) := by decide +kernel
theorem dX7_highIn_28 : decode cX7_highIn 28 = .ok (.istore_n 3, 1) := by decide +kernel
theorem dX7_highIn_29 : decode cX7_highIn 29 = .ok (.aload_n 0, 1) := by decide +kernel
theorem dX7_highIn_30 : decode cX7_highIn 30 = .ok (.iload_n 1, 1) := by decide +kernel
theorem dX7_highIn_31 : decode cX7_highIn 31 = .ok (.iconst 0, 1) := by decide +kernel
theorem dX7_highIn_32 : decode cX7_highIn 32 = .ok (.invokevirtual 56, 3) := by decide +kernel
theorem dX7_highIn_35 : decode cX7_highIn 35 = .ok (.iload_n 3, 1) := by decide +kernel
theorem dX7_highIn_36 : decode cX7_highIn 36 = .ok (.aload_n 0, 1) := by decide +kernel
theorem dX7_highIn_37 : decode cX7_highIn 37 = .ok (.iload_n 1, 1) := by decide +kernel
theorem dX7_highIn_38 : decode cX7_highIn 38 = .ok (.iconst 1, 1) := by decide +kernel
theorem dX7_highIn_39 : decode cX7_highIn 39 = .ok (.invokevirtual 56, 3) := by decide +kernel
theorem dX7_highIn_42 : decode cX7_highIn 42 = .ok (.aload_n 0, 1) := by decide +kernel
theorem dX7_highIn_43 : decode cX7_highIn 43 = .ok (.iload_n 1, 1) := by decide +kernel
theorem dX7_highIn_44 : decode cX7_highIn 44 = .ok (.iconst 3, 1) := by decide +kernel
theorem dX7_highIn_45 : decode cX7_highIn 45 = .ok (.invokevirtual 56, 3) := by decide +kernel
theorem dX7_highIn_48 : decode cX7_highIn 48 = .ok (.aload_n 0, 1) := by decide +kernel
theorem dX7_highIn_49 : decode cX7_highIn 49 = .ok (.iload_n 1, 1) := by decide +kernel
theorem dX7_highIn_50 : decode cX7_highIn 50 = .ok (.iconst 2, 1) := by decide +kernel
theorem dX7_highIn_51 : decode cX7_highIn 51 = .ok (.invokevirtual 56, 3) := by decide +kernel
theorem dX7_highIn_54 : decode cX7_highIn 54 = .ok (.aload_n 0, 1) := by decide +kernel
theorem dX7_highIn_55 : decode cX7_highIn 55 = .ok (.iload_n 1, 1) := by decide +kernel
theorem dX7_highIn_56 : decode cX7_highIn 56 = .ok (.iconst 5, 1) := by decide +kernel
theorem dX7_highIn_57 : decode cX7_highIn 57 = .ok (.invokevirtual 56, 3) := by decide +kernel
theorem dX7_highIn_60 : decode cX7_highIn 60 = .ok (.invokestatic 64, 3) := by decide +kernel
theorem dX7_highIn_63 : decode cX7_highIn 63 = .ok (.isub, 1) := by decide +kernel
theorem dX7_highIn_64 : decode cX7_highIn 64 = .ok (.aload_n 0, 1) := by decide +kernel
theorem dX7_highIn_65 : decode cX7_highIn 65 = .ok (.getfield 7, 3) := by decide +kernel
theorem dX7_highIn_68 : decode cX7_highIn 68 = .ok (.iconst 3, 1) := by decide +kernel
theorem dX7_highIn_69 : decode cX7_highIn 69 = .ok (.iaload, 1) := by decide +kernel
theorem dX7_highIn_70 : decode cX7_highIn 70 = .ok (.invokestatic 68, 3) := by decide +kernel
theorem dX7_highIn_73 : decode cX7_highIn 73 = .ok (.ireturn, 1) := by decide +kernel
theorem dX7_high_0 : decode cX7_high 0 = .ok (.aload_n 0, 1) := by decide +kernel
theorem dX7_high_1 : decode cX7_high 1 = .ok (.iload_n 1, 1) := by decide +kernel
theorem dX7_high_2 : decode cX7_high 2 = .ok (.aload_n 0, 1) := by decide +kernel
theorem dX7_high_3 : decode cX7_high 3 = .ok (.iload_n 1, 1) := by decide +kernel
theorem dX7_high_4 : decode cX7_high 4 = .ok (.iconst 4, 1) := by decide +kernel
theorem dX7_high_5 : decode cX7_high 5 = .ok (.invokevirtual 56, 3) := by decide +kernel
theorem dX7_high_8 : decode cX7_high 8 = .ok (.invokevirtual 72, 3) := by decide +kernel
theorem dX7_high_11 : decode cX7_high 11 = .ok (.ireturn, 1) := by decide +kernel
theorem dX7_wears_0 : decode cX7_wears 0 = .ok (.aload_n 0, 1) := by decide +kernel
theorem dX7_wears_1 : decode cX7_wears 1 = .ok (.getfield 7, 3) := by decide +kernel
theorem dX7_wears_4 : decode cX7_wears 4 = .ok (.iconst 2, 1) := by decide +kernel
theorem dX7_wears_5 : decode cX7_wears 5 = .ok (.iaload, 1) := by decide +kernel
theorem dX7_wears_6 : decode cX7_wears 6 = .ok (.iconst 4, 1) := by decide +kernel
theorem dX7_wears_7 : decode cX7_wears 7 = .ok (.if_icmp .eq 14, 3) := by decide +kernel
theorem dX7_wears_10 : decode cX7_wears 10 = .ok (.aload_n 0, 1) := by decide +kernel
theorem dX7_wears_11 : decode cX7_wears 11 = .ok (.getfield 7, 3) := by decide +kernel
theorem dX7_wears_14 : decode cX7_wears 14 = .ok (.iconst 2, 1) := by decide +kernel
theorem dX7_wears_15 : decode cX7_wears 15 = .ok (.iaload, 1) := by decide +kernel
theorem dX7_wears_16 : decode cX7_wears 16 = .ok (.bipush (-4), 2) := by decide +kernel
theorem dX7_wears_18 : decode cX7_wears 18 = .ok (.if_icmp .ne 7, 3) := by decide +kernel
theorem dX7_wears_21 : decode cX7_wears 21 = .ok (.iconst 2, 1) := by decide +kernel
theorem dX7_wears_22 : decode cX7_wears 22 = .ok (.goto 4, 3) := by decide +kernel
theorem dX7_wears_25 : decode cX7_wears 25 = .ok (.iconst 1, 1) := by decide +kernel
theorem dX7_wears_26 : decode cX7_wears 26 = .ok (.istore_n 1, 1) := by decide +kernel
theorem dX7_wears_27 : decode cX7_wears 27 = .ok (.iconst 0, 1) := by decide +kernel
theorem dX7_wears_28 : decode cX7_wears 28 = .ok (.istore_n 2, 1) := by decide +kernel
theorem dX7_wears_29 : decode cX7_wears 29 = .ok (.iload_n 2, 1) := by decide +kernel
theorem dX7_wears_30 : decode cX7_wears 30 = .ok (.aload_n 0, 1) := by decide +kernel
theorem dX7_wears_31 : decode cX7_wears 31 = .ok (.getfield 7, 3) := by decide +kernel
theorem dX7_wears_34 : decode cX7_wears 34 = .ok (.iconst 0, 1) := by decide +kernel
theorem dX7_wears_35 : decode cX7_wears 35 = .ok (.iaload, 1) := by decide +kernel
theorem dX7_wears_36 : decode cX7_wears 36 = .ok (.if_icmp .ge 69, 3) := by decide +kernel
theorem dX7_wears_39 : decode cX7_wears 39 = .ok (.aload_n 0, 1) := by decide +kernel
theorem dX7_wears_40 : decode cX7_wears 40 = .ok (.iload_n 2, 1) := by decide +kernel
theorem dX7_wears_41 : decode cX7_wears 41 = .ok (.invokevirtual 60, 3) := by decide +kernel
theorem dX7_wears_44 : decode cX7_wears 44 = .ok (.ifCond .ne 55, 3) := by decide +kernel
theorem dX7_wears_47 : decode cX7_wears 47 = .ok (.aload_n 0, 1) := by decide +kernel
theorem dX7_wears_48 : decode cX7_wears 48 = .ok (.iload_n 2, 1) := by decide +kernel
theorem dX7_wears_49 : decode cX7_wears 49 = .ok (.iconst 5, 1) := by decide +kernel
theorem dX7_wears_50 : decode cX7_wears 50 = .ok (.invokevirtual 56, 3) := by decide +kernel
theorem dX7_wears_53 : decode cX7_wears 53 = .ok (.iload_n 1, 1) := by decide +kernel
theorem dX7_wears_54 : decode cX7_wears 54 = .ok (.aload_n 0, 1) := by decide +kernel
theorem dX7_wears_55 : decode cX7_wears 55 = .ok (.iload_n 2, 1) := by decide +kernel
theorem dX7_wears_56 : decode cX7_wears 56 = .ok (.iconst 2, 1) := by decide +kernel
theorem dX7_wears_57 : decode cX7_wears 57 = .ok (.invokevirtual 56, 3) := by decide +kernel
theorem dX7_wears_60 : decode cX7_wears 60 = .ok (.imul, 1) := by decide +kernel
theorem dX7_wears_61 : decode cX7_wears 61 = .ok (.iadd, 1) := by decide +kernel
theorem dX7_wears_62 : decode cX7_wears 62 = .ok (.istore_n 3, 1) := by decide +kernel
theorem dX7_wears_63 : decode cX7_wears 63 = .ok (.aload_n 0, 1) := by decide +kernel
theorem dX7_wears_64 : decode cX7_wears 64 = .ok (.iload_n 2, 1) := by decide +kernel
theorem dX7_wears_65 : decode cX7_wears 65 = .ok (.iconst 5, 1) := by decide +kernel
theorem dX7_wears_66 : decode cX7_wears 66 = .ok (.iload_n 3, 1) := by decide +kernel
theorem dX7_wears_67 : decode cX7_wears 67 = .ok (.bipush 99, 2) := by decide +kernel
theorem dX7_wears_69 : decode cX7_wears 69 = .ok (.if_icmp .le 8, 3) := by decide +kernel
theorem dX7_wears_72 : decode cX7_wears 72 = .ok (.bipush 99, 2) := by decide +kernel
theorem dX7_wears_74 : decode cX7_wears 74 = .ok (.goto 4, 3) := by decide +kernel
theorem dX7_wears_77 : decode cX7_wears 77 = .ok (.iload_n 3, 1) := by decide +kernel
theorem dX7_wears_78 : decode cX7_wears 78 = .ok (.invokevirtual 75, 3) := by decide +kernel
theorem dX7_wears_81 : decode cX7_wears 81 = .ok (.aload_n 0, 1) := by decide +kernel
theorem dX7_wears_82 : decode cX7_wears 82 = .ok (.iload_n 2, 1) := by decide +kernel
theorem dX7_wears_83 : decode cX7_wears 83 = .ok (.bipush 6, 2) := by decide +kernel
theorem dX7_wears_85 : decode cX7_wears 85 = .ok (.iload_n 3, 1) := by decide +kernel
theorem dX7_wears_86 : decode cX7_wears 86 = .ok (.bipush 99, 2) := by decide +kernel
theorem dX7_wears_88 : decode cX7_wears 88 = .ok (.if_icmp .lt 7, 3) := by decide +kernel
theorem dX7_wears_91 : decode cX7_wears 91 = .ok (.iconst 1, 1) := by decide +kernel
theorem dX7_wears_92 : decode cX7_wears 92 = .ok (.goto 4, 3) := by decide +kernel
theorem dX7_wears_95 : decode cX7_wears 95 = .ok (.iconst 0, 1) := by decide +kernel
theorem dX7_wears_96 : decode cX7_wears 96 = .ok (.invokevirtual 75, 3) := by decide +kernel
theorem dX7_wears_99 : decode cX7_wears 99 = .ok (.iinc 2 1, 3) := by decide +kernel
theorem dX7_wears_102 : decode cX7_wears 102 = .ok (.goto (-73), 3) := by decide +kernel
theorem dX7_wears_105 : decode cX7_wears 105 = .ok (.return_, 1) := by decide +kernel
theorem dX7_goes_0 : decode cX7_goes 0 = .ok (.aload_n 0, 1) := by decide +kernel
theorem dX7_goes_1 : decode cX7_goes 1 = .ok (.getfield 7, 3) := by decide +kernel
theorem dX7_goes_4 : decode cX7_goes 4 = .ok (.iconst 1, 1) := by decide +kernel
theorem dX7_goes_5 : decode cX7_goes 5 = .ok (.iaload, 1) := by decide +kernel
theorem dX7_goes_6 : decode cX7_goes 6 = .ok (.iload_n 1, 1) := by decide +kernel
theorem dX7_goes_7 : decode cX7_goes 7 = .ok (.ifCond .ne 7, 3) := by decide +kernel
theorem dX7_goes_10 : decode cX7_goes 10 = .ok (.iconst 3, 1) := by decide +kernel
theorem dX7_goes_11 : decode cX7_goes 11 = .ok (.goto 14, 3) := by decide +kernel
theorem dX7_goes_14 : decode cX7_goes 14 = .ok (.iload_n 1, 1) := by decide +kernel
theorem dX7_goes_15 : decode cX7_goes 15 = .ok (.iconst 1, 1) := by decide +kernel
theorem dX7_goes_16 : decode cX7_goes 16 = .ok (.if_icmp .ne 8, 3) := by decide +kernel
theorem dX7_goes_19 : decode cX7_goes 19 = .ok (.bipush (-3), 2) := by decide +kernel
theorem dX7_goes_21 : decode cX7_goes 21 = .ok (.goto 4, 3) := by decide +kernel
theorem dX7_goes_24 : decode cX7_goes 24 = .ok (.iconst 0, 1) := by decide +kernel
theorem dX7_goes_25 : decode cX7_goes 25 = .ok (.iadd, 1) := by decide +kernel
theorem dX7_goes_26 : decode cX7_goes 26 = .ok (.istore_n 2, 1) := by decide +kernel
theorem dX7_goes_27 : decode cX7_goes 27 = .ok (.aload_n 0, 1) := by decide +kernel
theorem dX7_goes_28 : decode cX7_goes 28 = .ok (.getfield 7, 3) := by decide +kernel
theorem dX7_goes_31 : decode cX7_goes 31 = .ok (.iconst 2, 1) := by decide +kernel
theorem dX7_goes_32 : decode cX7_goes 32 = .ok (.iaload, 1) := by decide +kernel
theorem dX7_goes_33 : decode cX7_goes 33 = .ok (.iload_n 1, 1) := by decide +kernel
theorem dX7_goes_34 : decode cX7_goes 34 = .ok (.iconst 2, 1) := by decide +kernel
theorem dX7_goes_35 : decode cX7_goes 35 = .ok (.if_icmp .ne 7, 3) := by decide +kernel
theorem dX7_goes_38 : decode cX7_goes 38 = .ok (.iconst (-1), 1) := by decide +kernel
theorem dX7_goes_39 : decode cX7_goes 39 = .ok (.goto 13, 3) := by decide +kernel
theorem dX7_goes_42 : decode cX7_goes 42 = .ok (.iload_n 1, 1) := by decide +kernel
theorem dX7_goes_43 : decode cX7_goes 43 = .ok (.iconst 3, 1) := by decide +kernel
theorem dX7_goes_44 : decode cX7_goes 44 = .ok (.if_icmp .ne 7, 3) := by decide +kernel
theorem dX7_goes_47 : decode cX7_goes 47 = .ok (.iconst 1, 1) := by decide +kernel
theorem dX7_goes_48 : decode cX7_goes 48 = .ok (.goto 4, 3) := by decide +kernel
theorem dX7_goes_51 : decode cX7_goes 51 = .ok (.iconst 0, 1) := by decide +kernel
theorem dX7_goes_52 : decode cX7_goes 52 = .ok (.iadd, 1) := by decide +kernel
theorem dX7_goes_53 : decode cX7_goes 53 = .ok (.istore_n 3, 1) := by decide +kernel
theorem dX7_goes_54 : decode cX7_goes 54 = .ok (.aload_n 0, 1) := by decide +kernel
theorem dX7_goes_55 : decode cX7_goes 55 = .ok (.getfield 7, 3) := by decide +kernel
theorem dX7_goes_58 : decode cX7_goes 58 = .ok (.iconst 1, 1) := by decide +kernel
theorem dX7_goes_59 : decode cX7_goes 59 = .ok (.iload_n 2, 1) := by decide +kernel
theorem dX7_goes_60 : decode cX7_goes 60 = .ok (.ifCond .ge 7, 3) := by decide +kernel
theorem dX7_goes_63 : decode cX7_goes 63 = .ok (.iconst 0, 1) := by decide +kernel
theorem dX7_goes_64 : decode cX7_goes 64 = .ok (.goto 15, 3) := by decide +kernel
theorem dX7_goes_67 : decode cX7_goes 67 = .ok (.iload_n 2, 1) := by decide +kernel
theorem dX7_goes_68 : decode cX7_goes 68 = .ok (.bipush 40, 2) := by decide +kernel
theorem dX7_goes_70 : decode cX7_goes 70 = .ok (.if_icmp .le 8, 3) := by decide +kernel
theorem dX7_goes_73 : decode cX7_goes 73 = .ok (.bipush 40, 2) := by decide +kernel
theorem dX7_goes_75 : decode cX7_goes 75 = .ok (.goto 4, 3) := by decide +kernel
theorem dX7_goes_78 : decode cX7_goes 78 = .ok (.iload_n 2, 1) := by decide +kernel
theorem dX7_goes_79 : decode cX7_goes 79 = .ok (.iastore, 1) := by decide +kernel
theorem dX7_goes_80 : decode cX7_goes 80 = .ok (.aload_n 0, 1) := by decide +kernel
theorem dX7_goes_81 : decode cX7_goes 81 = .ok (.getfield 7, 3) := by decide +kernel
theorem dX7_goes_84 : decode cX7_goes 84 = .ok (.iconst 2, 1) := by decide +kernel
theorem dX7_goes_85 : decode cX7_goes 85 = .ok (.iload_n 3, 1) := by decide +kernel
theorem dX7_goes_86 : decode cX7_goes 86 = .ok (.bipush (-4), 2) := by decide +kernel
theorem dX7_goes_88 : decode cX7_goes 88 = .ok (.if_icmp .ge 8, 3) := by decide +kernel
theorem dX7_goes_91 : decode cX7_goes 91 = .ok (.bipush (-4), 2) := by decide +kernel
theorem dX7_goes_93 : decode cX7_goes 93 = .ok (.goto 13, 3) := by decide +kernel
theorem dX7_goes_96 : decode cX7_goes 96 = .ok (.iload_n 3, 1) := by decide +kernel
theorem dX7_goes_97 : decode cX7_goes 97 = .ok (.iconst 4, 1) := by decide +kernel
theorem dX7_goes_98 : decode cX7_goes 98 = .ok (.if_icmp .le 7, 3) := by decide +kernel
theorem dX7_goes_101 : decode cX7_goes 101 = .ok (.iconst 4, 1) := by decide +kernel
theorem dX7_goes_102 : decode cX7_goes 102 = .ok (.goto 4, 3) := by decide +kernel
theorem dX7_goes_105 : decode cX7_goes 105 = .ok (.iload_n 3, 1) := by decide +kernel
theorem dX7_goes_106 : decode cX7_goes 106 = .ok (.iastore, 1) := by decide +kernel
theorem dX7_goes_107 : decode cX7_goes 107 = .ok (.aload_n 0, 1) := by decide +kernel
theorem dX7_goes_108 : decode cX7_goes 108 = .ok (.getfield 7, 3) := by decide +kernel
theorem dX7_goes_111 : decode cX7_goes 111 = .ok (.iconst 3, 1) := by decide +kernel
theorem dX7_goes_112 : decode cX7_goes 112 = .ok (.dup2, 1) := by decide +kernel
theorem dX7_goes_113 : decode cX7_goes 113 = .ok (.iaload, 1) := by decide +kernel
theorem dX7_goes_114 : decode cX7_goes 114 = .ok (.iconst 1, 1) := by decide +kernel
theorem dX7_goes_115 : decode cX7_goes 115 = .ok (.iadd, 1) := by decide +kernel
theorem dX7_goes_116 : decode cX7_goes 116 = .ok (.iastore, 1) := by decide +kernel
theorem dX7_goes_117 : decode cX7_goes 117 = .ok (.aload_n 0, 1) := by decide +kernel
theorem dX7_goes_118 : decode cX7_goes 118 = .ok (.invokevirtual 79, 3) := by decide +kernel
theorem dX7_goes_121 : decode cX7_goes 121 = .ok (.return_, 1) := by decide +kernel
theorem dX7_snapped_0 : decode cX7_snapped 0 = .ok (.iconst 0, 1) := by decide +kernel
theorem dX7_snapped_1 : decode cX7_snapped 1 = .ok (.istore_n 1, 1) := by decide +kernel
theorem dX7_snapped_2 : decode cX7_snapped 2 = .ok (.iconst 0, 1) := by decide +kernel
theorem dX7_snapped_3 : decode cX7_snapped 3 = .ok (.istore_n 2, 1) := by decide +kernel
theorem dX7_snapped_4 : decode cX7_snapped 4 = .ok (.iload_n 2, 1) := by decide +kernel
theorem dX7_snapped_5 : decode cX7_snapped 5 = .ok (.aload_n 0, 1) := by decide +kernel
theorem dX7_snapped_6 : decode cX7_snapped 6 = .ok (.getfield 7, 3) := by decide +kernel
theorem dX7_snapped_9 : decode cX7_snapped 9 = .ok (.iconst 0, 1) := by decide +kernel
theorem dX7_snapped_10 : decode cX7_snapped 10 = .ok (.iaload, 1) := by decide +kernel
theorem dX7_snapped_11 : decode cX7_snapped 11 = .ok (.if_icmp .ge 19, 3) := by decide +kernel
theorem dX7_snapped_14 : decode cX7_snapped 14 = .ok (.iload_n 1, 1) := by decide +kernel
theorem dX7_snapped_15 : decode cX7_snapped 15 = .ok (.aload_n 0, 1) := by decide +kernel
theorem dX7_snapped_16 : decode cX7_snapped 16 = .ok (.iload_n 2, 1) := by decide +kernel
theorem dX7_snapped_17 : decode cX7_snapped 17 = .ok (.bipush 6, 2) := by decide +kernel
theorem dX7_snapped_19 : decode cX7_snapped 19 = .ok (.invokevirtual 56, 3) := by decide +kernel
theorem dX7_snapped_22 : decode cX7_snapped 22 = .ok (.iadd, 1) := by decide +kernel
theorem dX7_snapped_23 : decode cX7_snapped 23 = .ok (.istore_n 1, 1) := by decide +kernel
theorem dX7_snapped_24 : decode cX7_snapped 24 = .ok (.iinc 2 1, 3) := by decide +kernel
theorem dX7_snapped_27 : decode cX7_snapped 27 = .ok (.goto (-23), 3) := by decide +kernel
theorem dX7_snapped_30 : decode cX7_snapped 30 = .ok (.iload_n 1, 1) := by decide +kernel
theorem dX7_snapped_31 : decode cX7_snapped 31 = .ok (.ireturn, 1) := by decide +kernel
theorem dX7_puppet_0 : decode cX7_puppet 0 = .ok (.iload_n 1, 1) := by decide +kernel
theorem dX7_puppet_1 : decode cX7_puppet 1 = .ok (.i2l, 1) := by decide +kernel
theorem dX7_puppet_2 : decode cX7_puppet 2 = .ok (.lconst 0, 1) := by decide +kernel
theorem dX7_puppet_3 : decode cX7_puppet 3 = .ok (.ldc2_w 82, 3) := by decide +kernel
theorem dX7_puppet_6 : decode cX7_puppet 6 = .ok (.invokestatic 52, 3) := by decide +kernel
theorem dX7_puppet_9 : decode cX7_puppet 9 = .ok (.ifCond .ne 8, 3) := by decide +kernel
theorem dX7_puppet_12 : decode cX7_puppet 12 = .ok (.aload_n 0, 1) := by decide +kernel
theorem dX7_puppet_13 : decode cX7_puppet 13 = .ok (.invokevirtual 84, 3) := by decide +kernel
theorem dX7_puppet_16 : decode cX7_puppet 16 = .ok (.ireturn, 1) := by decide +kernel
theorem dX7_puppet_17 : decode cX7_puppet 17 = .ok (.aload_n 0, 1) := by decide +kernel
theorem dX7_puppet_18 : decode cX7_puppet 18 = .ok (.getfield 7, 3) := by decide +kernel
theorem dX7_puppet_21 : decode cX7_puppet 21 = .ok (.iconst 0, 1) := by decide +kernel
theorem dX7_puppet_22 : decode cX7_puppet 22 = .ok (.iaload, 1) := by decide +kernel
theorem dX7_puppet_23 : decode cX7_puppet 23 = .ok (.istore_n 2, 1) := by decide +kernel
theorem dX7_puppet_24 : decode cX7_puppet 24 = .ok (.aload_n 0, 1) := by decide +kernel
theorem dX7_puppet_25 : decode cX7_puppet 25 = .ok (.iload_n 1, 1) := by decide +kernel
theorem dX7_puppet_26 : decode cX7_puppet 26 = .ok (.invokevirtual 38, 3) := by decide +kernel
theorem dX7_puppet_29 : decode cX7_puppet 29 = .ok (.iload_n 2, 1) := by decide +kernel
theorem dX7_puppet_30 : decode cX7_puppet 30 = .ok (.ireturn, 1) := by decide +kernel
theorem dX7_isLimbBy_0 : decode cX7_isLimbBy 0 = .ok (.iload_n 0, 1) := by decide +kernel
theorem dX7_isLimbBy_1 : decode cX7_isLimbBy 1 = .ok (.i2l, 1) := by decide +kernel
theorem dX7_isLimbBy_2 : decode cX7_isLimbBy 2 = .ok (.lconst 0, 1) := by decide +kernel
theorem dX7_isLimbBy_3 : decode cX7_isLimbBy 3 = .ok (.ldc2_w 88, 3) := by decide +kernel
theorem dX7_isLimbBy_6 : decode cX7_isLimbBy 6 = .ok (.invokestatic 52, 3) := by decide +kernel
theorem dX7_isLimbBy_9 : decode cX7_isLimbBy 9 = .ok (.ifCond .eq 56, 3) := by decide +kernel
theorem dX7_isLimbBy_12 : decode cX7_isLimbBy 12 = .ok (.iload_n 1, 1) := by decide +kernel
theorem dX7_isLimbBy_13 : decode cX7_isLimbBy 13 = .ok (.i2l, 1) := by decide +kernel
theorem dX7_isLimbBy_14 : decode cX7_isLimbBy 14 = .ok (.lconst 0, 1) := by decide +kernel
theorem dX7_isLimbBy_15 : decode cX7_isLimbBy 15 = .ok (.ldc2_w 88, 3) := by decide +kernel
theorem dX7_isLimbBy_18 : decode cX7_isLimbBy 18 = .ok (.invokestatic 52, 3) := by decide +kernel
theorem dX7_isLimbBy_21 : decode cX7_isLimbBy 21 = .ok (.ifCond .eq 44, 3) := by decide +kernel
theorem dX7_isLimbBy_24 : decode cX7_isLimbBy 24 = .ok (.iload_n 2, 1) := by decide +kernel
theorem dX7_isLimbBy_25 : decode cX7_isLimbBy 25 = .ok (.i2l, 1) := by decide +kernel
theorem dX7_isLimbBy_26 : decode cX7_isLimbBy 26 = .ok (.lconst 1, 1) := by decide +kernel
theorem dX7_isLimbBy_27 : decode cX7_isLimbBy 27 = .ok (.ldc2_w 90, 3) := by decide +kernel
theorem dX7_isLimbBy_30 : decode cX7_isLimbBy 30 = .ok (.invokestatic 52, 3) := by decide +kernel
theorem dX7_isLimbBy_33 : decode cX7_isLimbBy 33 = .ok (.ifCond .eq 32, 3) := by decide +kernel
theorem dX7_isLimbBy_36 : decode cX7_isLimbBy 36 = .ok (.iload_n 3, 1) := by decide +kernel
theorem dX7_isLimbBy_37 : decode cX7_isLimbBy 37 = .ok (.i2l, 1) := by decide +kernel
theorem dX7_isLimbBy_38 : decode cX7_isLimbBy 38 = .ok (.lconst 1, 1) := by decide +kernel
theorem dX7_isLimbBy_39 : decode cX7_isLimbBy 39 = .ok (.ldc2_w 92, 3) := by decide +kernel
theorem dX7_isLimbBy_42 : decode cX7_isLimbBy 42 = .ok (.invokestatic 52, 3) := by decide +kernel
theorem dX7_isLimbBy_45 : decode cX7_isLimbBy 45 = .ok (.ifCond .eq 20, 3) := by decide +kernel
theorem dX7_isLimbBy_48 : decode cX7_isLimbBy 48 = .ok (.iload 4, 2) := by decide +kernel
theorem dX7_isLimbBy_50 : decode cX7_isLimbBy 50 = .ok (.i2l, 1) := by decide +kernel
theorem dX7_isLimbBy_51 : decode cX7_isLimbBy 51 = .ok (.lconst 0, 1) := by decide +kernel
theorem dX7_isLimbBy_52 : decode cX7_isLimbBy 52 = .ok (.ldc2_w 94, 3) := by decide +kernel
theorem dX7_isLimbBy_55 : decode cX7_isLimbBy 55 = .ok (.invokestatic 52, 3) := by decide +kernel
theorem dX7_isLimbBy_58 : decode cX7_isLimbBy 58 = .ok (.ifCond .eq 7, 3) := by decide +kernel
theorem dX7_isLimbBy_61 : decode cX7_isLimbBy 61 = .ok (.iconst 1, 1) := by decide +kernel
theorem dX7_isLimbBy_62 : decode cX7_isLimbBy 62 = .ok (.goto 4, 3) := by decide +kernel
theorem dX7_isLimbBy_65 : decode cX7_isLimbBy 65 = .ok (.iconst 0, 1) := by decide +kernel
theorem dX7_isLimbBy_66 : decode cX7_isLimbBy 66 = .ok (.ireturn, 1) := by decide +kernel
theorem dX7_limbComes_0 : decode cX7_limbComes 0 = .ok (.aload_n 0, 1) := by decide +kernel
theorem dX7_limbComes_1 : decode cX7_limbComes 1 = .ok (.getfield 7, 3) := by decide +kernel
theorem dX7_limbComes_4 : decode cX7_limbComes 4 = .ok (.iconst 0, 1) := by decide +kernel
theorem dX7_limbComes_5 : decode cX7_limbComes 5 = .ok (.iaload, 1) := by decide +kernel
theorem dX7_limbComes_6 : decode cX7_limbComes 6 = .ok (.istore 6, 2) := by decide +kernel
theorem dX7_limbComes_8 : decode cX7_limbComes 8 = .ok (.aload_n 0, 1) := by decide +kernel
theorem dX7_limbComes_9 : decode cX7_limbComes 9 = .ok (.iload 6, 2) := by decide +kernel
theorem dX7_limbComes_11 : decode cX7_limbComes 11 = .ok (.iconst 0, 1) := by decide +kernel
theorem dX7_limbComes_12 : decode cX7_limbComes 12 = .ok (.iload_n 1, 1) := by decide +kernel
theorem dX7_limbComes_13 : decode cX7_limbComes 13 = .ok (.invokevirtual 75, 3) := by decide +kernel
theorem dX7_limbComes_16 : decode cX7_limbComes 16 = .ok (.aload_n 0, 1) := by decide +kernel
theorem dX7_limbComes_17 : decode cX7_limbComes 17 = .ok (.iload 6, 2) := by decide +kernel
theorem dX7_limbComes_19 : decode cX7_limbComes 19 = .ok (.iconst 1, 1) := by decide +kernel
theorem dX7_limbComes_20 : decode cX7_limbComes 20 = .ok (.iload_n 2, 1) := by decide +kernel
theorem dX7_limbComes_21 : decode cX7_limbComes 21 = .ok (.invokevirtual 75, 3) := by decide +kernel
theorem dX7_limbComes_24 : decode cX7_limbComes 24 = .ok (.aload_n 0, 1) := by decide +kernel
theorem dX7_limbComes_25 : decode cX7_limbComes 25 = .ok (.iload 6, 2) := by decide +kernel
theorem dX7_limbComes_27 : decode cX7_limbComes 27 = .ok (.iconst 2, 1) := by decide +kernel
theorem dX7_limbComes_28 : decode cX7_limbComes 28 = .ok (.iload_n 3, 1) := by decide +kernel
theorem dX7_limbComes_29 : decode cX7_limbComes 29 = .ok (.invokevirtual 75, 3) := by decide +kernel
theorem dX7_limbComes_32 : decode cX7_limbComes 32 = .ok (.aload_n 0, 1) := by decide +kernel
theorem dX7_limbComes_33 : decode cX7_limbComes 33 = .ok (.iload 6, 2) := by decide +kernel
theorem dX7_limbComes_35 : decode cX7_limbComes 35 = .ok (.iconst 3, 1) := by decide +kernel
theorem dX7_limbComes_36 : decode cX7_limbComes 36 = .ok (.iload 4, 2) := by decide +kernel
theorem dX7_limbComes_38 : decode cX7_limbComes 38 = .ok (.invokevirtual 75, 3) := by decide +kernel
theorem dX7_limbComes_41 : decode cX7_limbComes 41 = .ok (.aload_n 0, 1) := by decide +kernel
theorem dX7_limbComes_42 : decode cX7_limbComes 42 = .ok (.iload 6, 2) := by decide +kernel
theorem dX7_limbComes_44 : decode cX7_limbComes 44 = .ok (.iconst 4, 1) := by decide +kernel
theorem dX7_limbComes_45 : decode cX7_limbComes 45 = .ok (.iload 5, 2) := by decide +kernel
theorem dX7_limbComes_47 : decode cX7_limbComes 47 = .ok (.invokevirtual 75, 3) := by decide +kernel
theorem dX7_limbComes_50 : decode cX7_limbComes 50 = .ok (.aload_n 0, 1) := by decide +kernel
theorem dX7_limbComes_51 : decode cX7_limbComes 51 = .ok (.iload 6, 2) := by decide +kernel
theorem dX7_limbComes_53 : decode cX7_limbComes 53 = .ok (.iconst 5, 1) := by decide +kernel
theorem dX7_limbComes_54 : decode cX7_limbComes 54 = .ok (.iconst 0, 1) := by decide +kernel
theorem dX7_limbComes_55 : decode cX7_limbComes 55 = .ok (.invokevirtual 75, 3) := by decide +kernel
theorem dX7_limbComes_58 : decode cX7_limbComes 58 = .ok (.aload_n 0, 1) := by decide +kernel
theorem dX7_limbComes_59 : decode cX7_limbComes 59 = .ok (.iload 6, 2) := by decide +kernel
theorem dX7_limbComes_61 : decode cX7_limbComes 61 = .ok (.bipush 6, 2) := by decide +kernel
theorem dX7_limbComes_63 : decode cX7_limbComes 63 = .ok (.iconst 0, 1) := by decide +kernel
theorem dX7_limbComes_64 : decode cX7_limbComes 64 = .ok (.invokevirtual 75, 3) := by decide +kernel
theorem dX7_limbComes_67 : decode cX7_limbComes 67 = .ok (.aload_n 0, 1) := by decide +kernel
theorem dX7_limbComes_68 : decode cX7_limbComes 68 = .ok (.getfield 7, 3) := by decide +kernel
theorem dX7_limbComes_71 : decode cX7_limbComes 71 = .ok (.iconst 0, 1) := by decide +kernel
theorem dX7_limbComes_72 : decode cX7_limbComes 72 = .ok (.dup2, 1) := by decide +kernel
theorem dX7_limbComes_73 : decode cX7_limbComes 73 = .ok (.iaload, 1) := by decide +kernel
theorem dX7_limbComes_74 : decode cX7_limbComes 74 = .ok (.iconst 1, 1) := by decide +kernel
theorem dX7_limbComes_75 : decode cX7_limbComes 75 = .ok (.iadd, 1) := by decide +kernel
theorem dX7_limbComes_76 : decode cX7_limbComes 76 = .ok (.iastore, 1) := by decide +kernel
theorem dX7_limbComes_77 : decode cX7_limbComes 77 = .ok (.aload_n 0, 1) := by decide +kernel
theorem dX7_limbComes_78 : decode cX7_limbComes 78 = .ok (.getfield 7, 3) := by decide +kernel
theorem dX7_limbComes_81 : decode cX7_limbComes 81 = .ok (.sipush 147, 3) := by decide +kernel
theorem dX7_limbComes_84 : decode cX7_limbComes 84 = .ok (.iconst 0, 1) := by decide +kernel
theorem dX7_limbComes_85 : decode cX7_limbComes 85 = .ok (.iastore, 1) := by decide +kernel
theorem dX7_limbComes_86 : decode cX7_limbComes 86 = .ok (.return_, 1) := by decide +kernel
theorem dX7_limb_0 : decode cX7_limb 0 = .ok (.iload_n 1, 1) := by decide +kernel
theorem dX7_limb_1 : decode cX7_limb 1 = .ok (.iload_n 2, 1) := by decide +kernel
theorem dX7_limb_2 : decode cX7_limb 2 = .ok (.iload_n 3, 1) := by decide +kernel
theorem dX7_limb_3 : decode cX7_limb 3 = .ok (.iload 4, 2) := by decide +kernel
theorem dX7_limb_5 : decode cX7_limb 5 = .ok (.iload 5, 2) := by decide +kernel
theorem dX7_limb_7 : decode cX7_limb 7 = .ok (.invokestatic 96, 3) := by decide +kernel
theorem dX7_limb_10 : decode cX7_limb 10 = .ok (.ifCond .ne 8, 3) := by decide +kernel
theorem dX7_limb_13 : decode cX7_limb 13 = .ok (.aload_n 0, 1) := by decide +kernel
theorem dX7_limb_14 : decode cX7_limb 14 = .ok (.invokevirtual 84, 3) := by decide +kernel
theorem dX7_limb_17 : decode cX7_limb 17 = .ok (.ireturn, 1) := by decide +kernel
theorem dX7_limb_18 : decode cX7_limb 18 = .ok (.aload_n 0, 1) := by decide +kernel
theorem dX7_limb_19 : decode cX7_limb 19 = .ok (.getfield 7, 3) := by decide +kernel
theorem dX7_limb_22 : decode cX7_limb 22 = .ok (.iconst 0, 1) := by decide +kernel
theorem dX7_limb_23 : decode cX7_limb 23 = .ok (.iaload, 1) := by decide +kernel
theorem dX7_limb_24 : decode cX7_limb 24 = .ok (.bipush 7, 2) := by decide +kernel
theorem dX7_limb_26 : decode cX7_limb 26 = .ok (.if_icmp .ne 8, 3) := by decide +kernel
theorem dX7_limb_29 : decode cX7_limb 29 = .ok (.aload_n 0, 1) := by decide +kernel
theorem dX7_limb_30 : decode cX7_limb 30 = .ok (.invokevirtual 100, 3) := by decide +kernel
theorem dX7_limb_33 : decode cX7_limb 33 = .ok (.ireturn, 1) := by decide +kernel
theorem dX7_limb_34 : decode cX7_limb 34 = .ok (.aload_n 0, 1) := by decide +kernel
theorem dX7_limb_35 : decode cX7_limb 35 = .ok (.iload_n 1, 1) := by decide +kernel
theorem dX7_limb_36 : decode cX7_limb 36 = .ok (.iload_n 2, 1) := by decide +kernel
theorem dX7_limb_37 : decode cX7_limb 37 = .ok (.iload_n 3, 1) := by decide +kernel
theorem dX7_limb_38 : decode cX7_limb 38 = .ok (.iload 4, 2) := by decide +kernel
theorem dX7_limb_40 : decode cX7_limb 40 = .ok (.iload 5, 2) := by decide +kernel
theorem dX7_limb_42 : decode cX7_limb 42 = .ok (.invokevirtual 103, 3) := by decide +kernel
theorem dX7_limb_45 : decode cX7_limb 45 = .ok (.aload_n 0, 1) := by decide +kernel
theorem dX7_limb_46 : decode cX7_limb 46 = .ok (.getfield 7, 3) := by decide +kernel
theorem dX7_limb_49 : decode cX7_limb 49 = .ok (.iconst 0, 1) := by decide +kernel
theorem dX7_limb_50 : decode cX7_limb 50 = .ok (.iaload, 1) := by decide +kernel
theorem dX7_limb_51 : decode cX7_limb 51 = .ok (.iconst 1, 1) := by decide +kernel
theorem dX7_limb_52 : decode cX7_limb 52 = .ok (.isub, 1) := by decide +kernel
theorem dX7_limb_53 : decode cX7_limb 53 = .ok (.ireturn, 1) := by decide +kernel
theorem dX7_type_0 : decode cX7_type 0 = .ok (.iload_n 1, 1) := by decide +kernel
theorem dX7_type_1 : decode cX7_type 1 = .ok (.i2l, 1) := by decide +kernel
theorem dX7_type_2 : decode cX7_type 2 = .ok (.lconst 0, 1) := by decide +kernel
theorem dX7_type_3 : decode cX7_type 3 = .ok (.ldc2_w 107, 3) := by decide +kernel
theorem dX7_type_6 : decode cX7_type 6 = .ok (.invokestatic 52, 3) := by decide +kernel
theorem dX7_type_9 : decode cX7_type 9 = .ok (.ifCond .ne 8, 3) := by decide +kernel
theorem dX7_type_12 : decode cX7_type 12 = .ok (.aload_n 0, 1) := by decide +kernel
theorem dX7_type_13 : decode cX7_type 13 = .ok (.invokevirtual 84, 3) := by decide +kernel
theorem dX7_type_16 : decode cX7_type 16 = .ok (.ireturn, 1) := by decide +kernel
theorem dX7_type_17 : decode cX7_type 17 = .ok (.aload_n 0, 1) := by decide +kernel
theorem dX7_type_18 : decode cX7_type 18 = .ok (.getfield 109, 3) := by decide +kernel
theorem dX7_type_21 : decode cX7_type 21 = .ok (.sipush 150, 3) := by decide +kernel
theorem dX7_type_24 : decode cX7_type 24 = .ok (.if_icmp .ne 8, 3) := by decide +kernel
theorem dX7_type_27 : decode cX7_type 27 = .ok (.aload_n 0, 1) := by decide +kernel
theorem dX7_type_28 : decode cX7_type 28 = .ok (.invokevirtual 100, 3) := by decide +kernel
theorem dX7_type_31 : decode cX7_type 31 = .ok (.ireturn, 1) := by decide +kernel
theorem dX7_type_32 : decode cX7_type 32 = .ok (.aload_n 0, 1) := by decide +kernel
theorem dX7_type_33 : decode cX7_type 33 = .ok (.getfield 17, 3) := by decide +kernel
theorem dX7_type_36 : decode cX7_type 36 = .ok (.aload_n 0, 1) := by decide +kernel
theorem dX7_type_37 : decode cX7_type 37 = .ok (.getfield 109, 3) := by decide +kernel
theorem dX7_type_40 : decode cX7_type 40 = .ok (.iload_n 1, 1) := by decide +kernel
theorem dX7_type_41 : decode cX7_type 41 = .ok (.iastore, 1) := by decide +kernel
theorem dX7_type_42 : decode cX7_type 42 = .ok (.aload_n 0, 1) := by decide +kernel
theorem dX7_type_43 : decode cX7_type 43 = .ok (.dup, 1) := by decide +kernel
theorem dX7_type_44 : decode cX7_type 44 = .ok (.getfield 109, 3) := by decide +kernel
theorem dX7_type_47 : decode cX7_type 47 = .ok (.iconst 1, 1) := by decide +kernel
theorem dX7_type_48 : decode cX7_type 48 = .ok (.iadd, 1) := by decide +kernel
theorem dX7_type_49 : decode cX7_type 49 = .ok (.putfield 109, 3) := by decide +kernel
theorem dX7_type_52 : decode cX7_type 52 = .ok (.aload_n 0, 1) := by decide +kernel
theorem dX7_type_53 : decode cX7_type 53 = .ok (.getfield 109, 3) := by decide +kernel
theorem dX7_type_56 : decode cX7_type 56 = .ok (.ireturn, 1) := by decide +kernel
theorem dX7_clear_0 : decode cX7_clear 0 = .ok (.aload_n 0, 1) := by decide +kernel
theorem dX7_clear_1 : decode cX7_clear 1 = .ok (.getfield 109, 3) := by decide +kernel
theorem dX7_clear_4 : decode cX7_clear 4 = .ok (.istore_n 1, 1) := by decide +kernel
theorem dX7_clear_5 : decode cX7_clear 5 = .ok (.aload_n 0, 1) := by decide +kernel
theorem dX7_clear_6 : decode cX7_clear 6 = .ok (.iconst 0, 1) := by decide +kernel
theorem dX7_clear_7 : decode cX7_clear 7 = .ok (.putfield 109, 3) := by decide +kernel
theorem dX7_clear_10 : decode cX7_clear 10 = .ok (.iload_n 1, 1) := by decide +kernel
theorem dX7_clear_11 : decode cX7_clear 11 = .ok (.ireturn, 1) := by decide +kernel
theorem dX7_byteAt_0 : decode cX7_byteAt 0 = .ok (.iload_n 1, 1) := by decide +kernel
theorem dX7_byteAt_1 : decode cX7_byteAt 1 = .ok (.aload_n 0, 1) := by decide +kernel
theorem dX7_byteAt_2 : decode cX7_byteAt 2 = .ok (.getfield 109, 3) := by decide +kernel
theorem dX7_byteAt_5 : decode cX7_byteAt 5 = .ok (.if_icmp .ge 12, 3) := by decide +kernel
theorem dX7_byteAt_8 : decode cX7_byteAt 8 = .ok (.aload_n 0, 1) := by decide +kernel
theorem dX7_byteAt_9 : decode cX7_byteAt 9 = .ok (.getfield 17, 3) := by decide +kernel
theorem dX7_byteAt_12 : decode cX7_byteAt 12 = .ok (.iload_n 1, 1) := by decide +kernel
theorem dX7_byteAt_13 : decode cX7_byteAt 13 = .ok (.iaload, 1) := by decide +kernel
theorem dX7_byteAt_14 : decode cX7_byteAt 14 = .ok (.goto 4, 3) := by decide +kernel
theorem dX7_byteAt_17 : decode cX7_byteAt 17 = .ok (.iconst (-1), 1) := by decide +kernel
theorem dX7_byteAt_18 : decode cX7_byteAt 18 = .ok (.ireturn, 1) := by decide +kernel
theorem dX7_wordAt_0 : decode cX7_wordAt 0 = .ok (.lconst 0, 1) := by decide +kernel
theorem dX7_wordAt_1 : decode cX7_wordAt 1 = .ok (.lstore_n 3, 1) := by decide +kernel
theorem dX7_wordAt_2 : decode cX7_wordAt 2 = .ok (.iload_n 1, 1) := by decide +kernel
theorem dX7_wordAt_3 : decode cX7_wordAt 3 = .ok (.istore 5, 2) := by decide +kernel
theorem dX7_wordAt_5 : decode cX7_wordAt 5 = .ok (.iload 5, 2) := by decide +kernel
theorem dX7_wordAt_7 : decode cX7_wordAt 7 = .ok (.iload_n 2, 1) := by decide +kernel
theorem dX7_wordAt_8 : decode cX7_wordAt 8 = .ok (.if_icmp .ge 35, 3) := by decide +kernel
theorem dX7_wordAt_11 : decode cX7_wordAt 11 = .ok (.iload_n 2, 1) := by decide +kernel
theorem dX7_wordAt_12 : decode cX7_wordAt 12 = .ok (.iload_n 1, 1) := by decide +kernel
theorem dX7_wordAt_13 : decode cX7_wordAt 13 = .ok (.isub, 1) := by decide +kernel
theorem dX7_wordAt_14 : decode cX7_wordAt 14 = .ok (.bipush 6, 2) := by decide +kernel
theorem dX7_wordAt_16 : decode cX7_wordAt 16 = .ok (.if_icmp .le 7, 3) := by decide +kernel
theorem dX7_wordAt_19 : decode cX7_wordAt 19 = .ok (.lconst 0, 1) := by decide +kernel
theorem dX7_wordAt_20 : decode cX7_wordAt 20 = .ok (.goto 16, 3) := by decide +kernel
theorem dX7_wordAt_23 : decode cX7_wordAt 23 = .ok (.lload_n 3, 1) := by decide +kernel
theorem dX7_wordAt_24 : decode cX7_wordAt 24 = .ok (.bipush 7, 2) := by decide +kernel
theorem dX7_wordAt_26 : decode cX7_wordAt 26 = .ok (.lshl, 1) := by decide +kernel
theorem dX7_wordAt_27 : decode cX7_wordAt 27 = .ok (.aload_n 0, 1) := by decide +kernel
theorem dX7_wordAt_28 : decode cX7_wordAt 28 = .ok (.getfield 17, 3) := by decide +kernel
theorem dX7_wordAt_31 : decode cX7_wordAt 31 = .ok (.iload 5, 2) := by decide +kernel
theorem dX7_wordAt_33 : decode cX7_wordAt 33 = .ok (.iaload, 1) := by decide +kernel
theorem dX7_wordAt_34 : decode cX7_wordAt 34 = .ok (.i2l, 1) := by decide +kernel
theorem dX7_wordAt_35 : decode cX7_wordAt 35 = .ok (.lor, 1) := by decide +kernel
theorem dX7_wordAt_36 : decode cX7_wordAt 36 = .ok (.lstore_n 3, 1) := by decide +kernel
theorem dX7_wordAt_37 : decode cX7_wordAt 37 = .ok (.iinc 5 1, 3) := by decide +kernel
theorem dX7_wordAt_40 : decode cX7_wordAt 40 = .ok (.goto (-35), 3) := by decide +kernel
theorem dX7_wordAt_43 : decode cX7_wordAt 43 = .ok (.lload_n 3, 1) := by decide +kernel
theorem dX7_wordAt_44 : decode cX7_wordAt 44 = .ok (.ldc2_w 112, 3) := by decide +kernel
theorem dX7_wordAt_47 : decode cX7_wordAt 47 = .ok (.ldc2_w 114, 3) := by decide +kernel
theorem dX7_wordAt_50 : decode cX7_wordAt 50 = .ok (.ldc2_w 112, 3) := by decide +kernel
theorem dX7_wordAt_53 : decode cX7_wordAt 53 = .ok (.ldc2_w 112, 3) := by decide +kernel
theorem dX7_wordAt_56 : decode cX7_wordAt 56 = .ok (.ldc2_w 116, 3) := by decide +kernel
theorem dX7_wordAt_59 : decode cX7_wordAt 59 = .ok (.ldc2_w 118, 3) := by decide +kernel
theorem dX7_wordAt_62 : decode cX7_wordAt 62 = .ok (.invokestatic 120, 3) := by decide +kernel
theorem dX7_wordAt_65 : decode cX7_wordAt 65 = .ok (.lcmp, 1) := by decide +kernel
theorem dX7_wordAt_66 : decode cX7_wordAt 66 = .ok (.ifCond .ne 7, 3) := by decide +kernel
theorem dX7_wordAt_69 : decode cX7_wordAt 69 = .ok (.iconst 1, 1) := by decide +kernel
theorem dX7_wordAt_70 : decode cX7_wordAt 70 = .ok (.goto 106, 3) := by decide +kernel
theorem dX7_wordAt_73 : decode cX7_wordAt 73 = .ok (.lload_n 3, 1) := by decide +kernel
theorem dX7_wordAt_74 : decode cX7_wordAt 74 = .ok (.lconst 0, 1) := by decide +kernel
theorem dX7_wordAt_75 : decode cX7_wordAt 75 = .ok (.lconst 0, 1) := by decide +kernel
theorem dX7_wordAt_76 : decode cX7_wordAt 76 = .ok (.ldc2_w 124, 3) := by decide +kernel
theorem dX7_wordAt_79 : decode cX7_wordAt 79 = .ok (.ldc2_w 126, 3) := by decide +kernel
theorem dX7_wordAt_82 : decode cX7_wordAt 82 = .ok (.ldc2_w 128, 3) := by decide +kernel
theorem dX7_wordAt_85 : decode cX7_wordAt 85 = .ok (.ldc2_w 130, 3) := by decide +kernel
theorem dX7_wordAt_88 : decode cX7_wordAt 88 = .ok (.invokestatic 120, 3) := by decide +kernel
theorem dX7_wordAt_91 : decode cX7_wordAt 91 = .ok (.lcmp, 1) := by decide +kernel
theorem dX7_wordAt_92 : decode cX7_wordAt 92 = .ok (.ifCond .ne 7, 3) := by decide +kernel
theorem dX7_wordAt_95 : decode cX7_wordAt 95 = .ok (.iconst 2, 1) := by decide +kernel
theorem dX7_wordAt_96 : decode cX7_wordAt 96 = .ok (.goto 80, 3) := by decide +kernel
theorem dX7_wordAt_99 : decode cX7_wordAt 99 = .ok (.lload_n 3, 1) := by decide +kernel
theorem dX7_wordAt_100 : decode cX7_wordAt 100 = .ok (.lconst 0, 1) := by decide +kernel
theorem dX7_wordAt_101 : decode cX7_wordAt 101 = .ok (.lconst 0, 1) := by decide +kernel
theorem dX7_wordAt_102 : decode cX7_wordAt 102 = .ok (.ldc2_w 128, 3) := by decide +kernel
theorem dX7_wordAt_105 : decode cX7_wordAt 105 = .ok (.ldc2_w 132, 3) := by decide +kernel
theorem dX7_wordAt_108 : decode cX7_wordAt 108 = .ok (.ldc2_w 134, 3) := by decide +kernel
theorem dX7_wordAt_111 : decode cX7_wordAt 111 = .ok (.ldc2_w 116, 3) := by decide +kernel
theorem dX7_wordAt_114 : decode cX7_wordAt 114 = .ok (.invokestatic 120, 3) := by decide +kernel
theorem dX7_wordAt_117 : decode cX7_wordAt 117 = .ok (.lcmp, 1) := by decide +kernel
theorem dX7_wordAt_118 : decode cX7_wordAt 118 = .ok (.ifCond .ne 7, 3) := by decide +kernel
theorem dX7_wordAt_121 : decode cX7_wordAt 121 = .ok (.iconst 3, 1) := by decide +kernel
theorem dX7_wordAt_122 : decode cX7_wordAt 122 = .ok (.goto 54, 3) := by decide +kernel
theorem dX7_wordAt_125 : decode cX7_wordAt 125 = .ok (.lload_n 3, 1) := by decide +kernel
theorem dX7_wordAt_126 : decode cX7_wordAt 126 = .ok (.lconst 0, 1) := by decide +kernel
theorem dX7_wordAt_127 : decode cX7_wordAt 127 = .ok (.lconst 0, 1) := by decide +kernel
theorem dX7_wordAt_128 : decode cX7_wordAt 128 = .ok (.lconst 0, 1) := by decide +kernel
theorem dX7_wordAt_129 : decode cX7_wordAt 129 = .ok (.ldc2_w 118, 3) := by decide +kernel
theorem dX7_wordAt_132 : decode cX7_wordAt 132 = .ok (.ldc2_w 126, 3) := by decide +kernel
theorem dX7_wordAt_135 : decode cX7_wordAt 135 = .ok (.ldc2_w 116, 3) := by decide +kernel
theorem dX7_wordAt_138 : decode cX7_wordAt 138 = .ok (.invokestatic 120, 3) := by decide +kernel
theorem dX7_wordAt_141 : decode cX7_wordAt 141 = .ok (.lcmp, 1) := by decide +kernel
theorem dX7_wordAt_142 : decode cX7_wordAt 142 = .ok (.ifCond .ne 7, 3) := by decide +kernel
theorem dX7_wordAt_145 : decode cX7_wordAt 145 = .ok (.iconst 4, 1) := by decide +kernel
theorem dX7_wordAt_146 : decode cX7_wordAt 146 = .ok (.goto 30, 3) := by decide +kernel
theorem dX7_wordAt_149 : decode cX7_wordAt 149 = .ok (.lload_n 3, 1) := by decide +kernel
theorem dX7_wordAt_150 : decode cX7_wordAt 150 = .ok (.lconst 0, 1) := by decide +kernel
theorem dX7_wordAt_151 : decode cX7_wordAt 151 = .ok (.lconst 0, 1) := by decide +kernel
theorem dX7_wordAt_152 : decode cX7_wordAt 152 = .ok (.ldc2_w 136, 3) := by decide +kernel
theorem dX7_wordAt_155 : decode cX7_wordAt 155 = .ok (.ldc2_w 138, 3) := by decide +kernel
theorem dX7_wordAt_158 : decode cX7_wordAt 158 = .ok (.ldc2_w 140, 3) := by decide +kernel
theorem dX7_wordAt_161 : decode cX7_wordAt 161 = .ok (.ldc2_w 142, 3) := by decide +kernel
theorem dX7_wordAt_164 : decode cX7_wordAt 164 = .ok (.invokestatic 120, 3) := by decide +kernel
theorem dX7_wordAt_167 : decode cX7_wordAt 167 = .ok (.lcmp, 1) := by decide +kernel
theorem dX7_wordAt_168 : decode cX7_wordAt 168 = .ok (.ifCond .ne 7, 3) := by decide +kernel
theorem dX7_wordAt_171 : decode cX7_wordAt 171 = .ok (.iconst 5, 1) := by decide +kernel
theorem dX7_wordAt_172 : decode cX7_wordAt 172 = .ok (.goto 4, 3) := by decide +kernel
theorem dX7_wordAt_175 : decode cX7_wordAt 175 = .ok (.iconst 0, 1) := by decide +kernel
theorem dX7_wordAt_176 : decode cX7_wordAt 176 = .ok (.ireturn, 1) := by decide +kernel
theorem dX7_word_0 : decode cX7_word 0 = .ok (.lload_n 0, 1) := by decide +kernel
theorem dX7_word_1 : decode cX7_word 1 = .ok (.bipush 35, 2) := by decide +kernel
theorem dX7_word_3 : decode cX7_word 3 = .ok (.lshl, 1) := by decide +kernel
theorem dX7_word_4 : decode cX7_word 4 = .ok (.lload_n 2, 1) := by decide +kernel
theorem dX7_word_5 : decode cX7_word 5 = .ok (.bipush 28, 2) := by decide +kernel
theorem dX7_word_7 : decode cX7_word 7 = .ok (.lshl, 1) := by decide +kernel
theorem dX7_word_8 : decode cX7_word 8 = .ok (.lor, 1) := by decide +kernel
theorem dX7_word_9 : decode cX7_word 9 = .ok (.lload 4, 2) := by decide +kernel
theorem dX7_word_11 : decode cX7_word 11 = .ok (.bipush 21, 2) := by decide +kernel
theorem dX7_word_13 : decode cX7_word 13 = .ok (.lshl, 1) := by decide +kernel
theorem dX7_word_14 : decode cX7_word 14 = .ok (.lor, 1) := by decide +kernel
theorem dX7_word_15 : decode cX7_word 15 = .ok (.lload 6, 2) := by decide +kernel
theorem dX7_word_17 : decode cX7_word 17 = .ok (.bipush 14, 2) := by decide +kernel
theorem dX7_word_19 : decode cX7_word 19 = .ok (.lshl, 1) := by decide +kernel
theorem dX7_word_20 : decode cX7_word 20 = .ok (.lor, 1) := by decide +kernel
theorem dX7_word_21 : decode cX7_word 21 = .ok (.lload 8, 2) := by decide +kernel
theorem dX7_word_23 : decode cX7_word 23 = .ok (.bipush 7, 2) := by decide +kernel
theorem dX7_word_25 : decode cX7_word 25 = .ok (.lshl, 1) := by decide +kernel
theorem dX7_word_26 : decode cX7_word 26 = .ok (.lor, 1) := by decide +kernel
theorem dX7_word_27 : decode cX7_word 27 = .ok (.lload 10, 2) := by decide +kernel
theorem dX7_word_29 : decode cX7_word 29 = .ok (.lor, 1) := by decide +kernel
theorem dX7_word_30 : decode cX7_word 30 = .ok (.lreturn, 1) := by decide +kernel
theorem dX7_looksOn_0 : decode cX7_looksOn 0 = .ok (.aload_n 0, 1) := by decide +kernel
theorem dX7_looksOn_1 : decode cX7_looksOn 1 = .ok (.aload_n 0, 1) := by decide +kernel
theorem dX7_looksOn_2 : decode cX7_looksOn 2 = .ok (.getfield 144, 3) := by decide +kernel
theorem dX7_looksOn_5 : decode cX7_looksOn 5 = .ok (.invokevirtual 147, 3) := by decide +kernel
theorem dX7_looksOn_8 : decode cX7_looksOn 8 = .ok (.bipush 32, 2) := by decide +kernel
theorem dX7_looksOn_10 : decode cX7_looksOn 10 = .ok (.if_icmp .ne 16, 3) := by decide +kernel
theorem dX7_looksOn_13 : decode cX7_looksOn 13 = .ok (.aload_n 0, 1) := by decide +kernel
theorem dX7_looksOn_14 : decode cX7_looksOn 14 = .ok (.dup, 1) := by decide +kernel
theorem dX7_looksOn_15 : decode cX7_looksOn 15 = .ok (.getfield 144, 3) := by decide +kernel
theorem dX7_looksOn_18 : decode cX7_looksOn 18 = .ok (.iconst 1, 1) := by decide +kernel
theorem dX7_looksOn_19 : decode cX7_looksOn 19 = .ok (.iadd, 1) := by decide +kernel
theorem dX7_looksOn_20 : decode cX7_looksOn 20 = .ok (.putfield 144, 3) := by decide +kernel
theorem dX7_looksOn_23 : decode cX7_looksOn 23 = .ok (.goto (-23), 3) := by decide +kernel
theorem dX7_looksOn_26 : decode cX7_looksOn 26 = .ok (.aload_n 0, 1) := by decide +kernel
theorem dX7_looksOn_27 : decode cX7_looksOn 27 = .ok (.aload_n 0, 1) := by decide +kernel
theorem dX7_looksOn_28 : decode cX7_looksOn 28 = .ok (.getfield 144, 3) := by decide +kernel
theorem dX7_looksOn_31 : decode cX7_looksOn 31 = .ok (.putfield 151, 3) := by decide +kernel
theorem dX7_looksOn_34 : decode cX7_looksOn 34 = .ok (.aload_n 0, 1) := by decide +kernel
theorem dX7_looksOn_35 : decode cX7_looksOn 35 = .ok (.aload_n 0, 1) := by decide +kernel
theorem dX7_looksOn_36 : decode cX7_looksOn 36 = .ok (.getfield 144, 3) := by decide +kernel
theorem dX7_looksOn_39 : decode cX7_looksOn 39 = .ok (.invokevirtual 147, 3) := by decide +kernel
theorem dX7_looksOn_42 : decode cX7_looksOn 42 = .ok (.istore_n 1, 1) := by decide +kernel
theorem dX7_looksOn_43 : decode cX7_looksOn 43 = .ok (.iload_n 1, 1) := by decide +kernel
theorem dX7_looksOn_44 : decode cX7_looksOn 44 = .ok (.i2l, 1) := by decide +kernel
theorem dX7_looksOn_45 : decode cX7_looksOn 45 = .ok (.ldc2_w 138, 3) := by decide +kernel
theorem dX7_looksOn_48 : decode cX7_looksOn 48 = .ok (.ldc2_w 154, 3) := by decide +kernel
theorem dX7_looksOn_51 : decode cX7_looksOn 51 = .ok (.invokestatic 52, 3) := by decide +kernel
theorem dX7_looksOn_54 : decode cX7_looksOn 54 = .ok (.ifCond .eq 61, 3) := by decide +kernel
theorem dX7_looksOn_57 : decode cX7_looksOn 57 = .ok (.aload_n 0, 1) := by decide +kernel
theorem dX7_looksOn_58 : decode cX7_looksOn 58 = .ok (.aload_n 0, 1) := by decide +kernel
theorem dX7_looksOn_59 : decode cX7_looksOn 59 = .ok (.getfield 144, 3) := by decide +kernel
theorem dX7_looksOn_62 : decode cX7_looksOn 62 = .ok (.invokevirtual 147, 3) := by decide +kernel
theorem dX7_looksOn_65 : decode cX7_looksOn 65 = .ok (.i2l, 1) := by decide +kernel
theorem dX7_looksOn_66 : decode cX7_looksOn 66 = .ok (.ldc2_w 138, 3) := by decide +kernel
theorem dX7_looksOn_69 : decode cX7_looksOn 69 = .ok (.ldc2_w 154, 3) := by decide +kernel
theorem dX7_looksOn_72 : decode cX7_looksOn 72 = .ok (.invokestatic 52, 3) := by decide +kernel
theorem dX7_looksOn_75 : decode cX7_looksOn 75 = .ok (.ifCond .eq 16, 3) := by decide +kernel
theorem dX7_looksOn_78 : decode cX7_looksOn 78 = .ok (.aload_n 0, 1) := by decide +kernel
theorem dX7_looksOn_79 : decode cX7_looksOn 79 = .ok (.dup, 1) := by decide +kernel
theorem dX7_looksOn_80 : decode cX7_looksOn 80 = .ok (.getfield 144, 3) := by decide +kernel
theorem dX7_looksOn_83 : decode cX7_looksOn 83 = .ok (.iconst 1, 1) := by decide +kernel
theorem dX7_looksOn_84 : decode cX7_looksOn 84 = .ok (.iadd, 1) := by decide +kernel
theorem dX7_looksOn_85 : decode cX7_looksOn 85 = .ok (.putfield 144, 3) := by decide +kernel
theorem dX7_looksOn_88 : decode cX7_looksOn 88 = .ok (.goto (-31), 3) := by decide +kernel
theorem dX7_looksOn_91 : decode cX7_looksOn 91 = .ok (.aload_n 0, 1) := by decide +kernel
theorem dX7_looksOn_92 : decode cX7_looksOn 92 = .ok (.iconst 1, 1) := by decide +kernel
theorem dX7_looksOn_93 : decode cX7_looksOn 93 = .ok (.putfield 156, 3) := by decide +kernel
theorem dX7_looksOn_96 : decode cX7_looksOn 96 = .ok (.aload_n 0, 1) := by decide +kernel
theorem dX7_looksOn_97 : decode cX7_looksOn 97 = .ok (.aload_n 0, 1) := by decide +kernel
theorem dX7_looksOn_98 : decode cX7_looksOn 98 = .ok (.aload_n 0, 1) := by decide +kernel
theorem dX7_looksOn_99 : decode cX7_looksOn 99 = .ok (.getfield 151, 3) := by decide +kernel
theorem dX7_looksOn_102 : decode cX7_looksOn 102 = .ok (.aload_n 0, 1) := by decide +kernel
theorem dX7_looksOn_103 : decode cX7_looksOn 103 = .ok (.getfield 144, 3) := by decide +kernel
theorem dX7_looksOn_106 : decode cX7_looksOn 106 = .ok (.invokevirtual 159, 3) := by decide +kernel
theorem dX7_looksOn_109 : decode cX7_looksOn 109 = .ok (.putfield 162, 3) := by decide +kernel
theorem dX7_looksOn_112 : decode cX7_looksOn 112 = .ok (.goto 166, 3) := by decide +kernel
theorem dX7_looksOn_115 : decode cX7_looksOn 115 = .ok (.iload_n 1, 1) := by decide +kernel
theorem dX7_looksOn_116 : decode cX7_looksOn 116 = .ok (.i2l, 1) := by decide +kernel
theorem dX7_looksOn_117 : decode cX7_looksOn 117 = .ok (.ldc2_w 165, 3) := by decide +kernel
theorem dX7_looksOn_120 : decode cX7_looksOn 120 = .ok (.ldc2_w 167, 3) := by decide +kernel
theorem dX7_looksOn_123 : decode cX7_looksOn 123 = .ok (.invokestatic 52, 3) := by decide +kernel
theorem dX7_looksOn_126 : decode cX7_looksOn 126 = .ok (.ifCond .eq 111, 3) := by decide +kernel
theorem dX7_looksOn_129 : decode cX7_looksOn 129 = .ok (.aload_n 0, 1) := by decide +kernel
theorem dX7_looksOn_130 : decode cX7_looksOn 130 = .ok (.iconst 0, 1) := by decide +kernel
theorem dX7_looksOn_131 : decode cX7_looksOn 131 = .ok (.putfield 162, 3) := by decide +kernel
theorem dX7_looksOn_134 : decode cX7_looksOn 134 = .ok (.aload_n 0, 1) := by decide +kernel
theorem dX7_looksOn_135 : decode cX7_looksOn 135 = .ok (.aload_n 0, 1) := by decide +kernel
theorem dX7_looksOn_136 : decode cX7_looksOn 136 = .ok (.getfield 144, 3) := by decide +kernel
theorem dX7_looksOn_139 : decode cX7_looksOn 139 = .ok (.invokevirtual 147, 3) := by decide +kernel
theorem dX7_looksOn_142 : decode cX7_looksOn 142 = .ok (.i2l, 1) := by decide +kernel
theorem dX7_looksOn_143 : decode cX7_looksOn 143 = .ok (.ldc2_w 165, 3) := by decide +kernel
theorem dX7_looksOn_146 : decode cX7_looksOn 146 = .ok (.ldc2_w 167, 3) := by decide +kernel
theorem dX7_looksOn_149 : decode cX7_looksOn 149 = .ok (.invokestatic 52, 3) := by decide +kernel
theorem dX7_looksOn_152 : decode cX7_looksOn 152 = .ok (.ifCond .eq 60, 3) := by decide +kernel
theorem dX7_looksOn_155 : decode cX7_looksOn 155 = .ok (.aload_n 0, 1) := by decide +kernel
theorem dX7_looksOn_156 : decode cX7_looksOn 156 = .ok (.aload_n 0, 1) := by decide +kernel
theorem dX7_looksOn_157 : decode cX7_looksOn 157 = .ok (.getfield 144, 3) := by decide +kernel
theorem dX7_looksOn_160 : decode cX7_looksOn 160 = .ok (.aload_n 0, 1) := by decide +kernel
theorem dX7_looksOn_161 : decode cX7_looksOn 161 = .ok (.getfield 151, 3) := by decide +kernel
theorem dX7_looksOn_164 : decode cX7_looksOn 164 = .ok (.isub, 1) := by decide +kernel
theorem dX7_looksOn_165 : decode cX7_looksOn 165 = .ok (.iconst 2, 1) := by decide +kernel
theorem dX7_looksOn_166 : decode cX7_looksOn 166 = .ok (.if_icmp .ge 26, 3) := by decide +kernel
theorem dX7_looksOn_169 : decode cX7_looksOn 169 = .ok (.bipush 10, 2) := by decide +kernel
theorem dX7_looksOn_171 : decode cX7_looksOn 171 = .ok (.aload_n 0, 1) := by decide +kernel
theorem dX7_looksOn_172 : decode cX7_looksOn 172 = .ok (.getfield 162, 3) := by decide +kernel
theorem dX7_looksOn_175 : decode cX7_looksOn 175 = .ok (.imul, 1) := by decide +kernel
theorem dX7_looksOn_176 : decode cX7_looksOn 176 = .ok (.aload_n 0, 1) := by decide +kernel
theorem dX7_looksOn_177 : decode cX7_looksOn 177 = .ok (.getfield 17, 3) := by decide +kernel
theorem dX7_looksOn_180 : decode cX7_looksOn 180 = .ok (.aload_n 0, 1) := by decide +kernel
theorem dX7_looksOn_181 : decode cX7_looksOn 181 = .ok (.getfield 144, 3) := by decide +kernel
theorem dX7_looksOn_184 : decode cX7_looksOn 184 = .ok (.iaload, 1) := by decide +kernel
theorem dX7_looksOn_185 : decode cX7_looksOn 185 = .ok (.iadd, 1) := by decide +kernel
theorem dX7_looksOn_186 : decode cX7_looksOn 186 = .ok (.bipush 48, 2) := by decide +kernel
theorem dX7_looksOn_188 : decode cX7_looksOn 188 = .ok (.isub, 1) := by decide +kernel
theorem dX7_looksOn_189 : decode cX7_looksOn 189 = .ok (.goto 7, 3) := by decide +kernel
theorem dX7_looksOn_192 : decode cX7_looksOn 192 = .ok (.aload_n 0, 1) := by decide +kernel
theorem dX7_looksOn_193 : decode cX7_looksOn 193 = .ok (.getfield 162, 3) := by decide +kernel
theorem dX7_looksOn_196 : decode cX7_looksOn 196 = .ok (.putfield 162, 3) := by decide +kernel
theorem dX7_looksOn_199 : decode cX7_looksOn 199 = .ok (.aload_n 0, 1) := by decide +kernel
theorem dX7_looksOn_200 : decode cX7_looksOn 200 = .ok (.dup, 1) := by decide +kernel
theorem dX7_looksOn_201 : decode cX7_looksOn 201 = .ok (.getfield 144, 3) := by decide +kernel
theorem dX7_looksOn_204 : decode cX7_looksOn 204 = .ok (.iconst 1, 1) := by decide +kernel
theorem dX7_looksOn_205 : decode cX7_looksOn 205 = .ok (.iadd, 1) := by decide +kernel
theorem dX7_looksOn_206 : decode cX7_looksOn 206 = .ok (.putfield 144, 3) := by decide +kernel
theorem dX7_looksOn_209 : decode cX7_looksOn 209 = .ok (.goto (-75), 3) := by decide +kernel
theorem dX7_looksOn_212 : decode cX7_looksOn 212 = .ok (.aload_n 0, 1) := by decide +kernel
theorem dX7_looksOn_213 : decode cX7_looksOn 213 = .ok (.aload_n 0, 1) := by decide +kernel
theorem dX7_looksOn_214 : decode cX7_looksOn 214 = .ok (.getfield 144, 3) := by decide +kernel
theorem dX7_looksOn_217 : decode cX7_looksOn 217 = .ok (.aload_n 0, 1) := by decide +kernel
theorem dX7_looksOn_218 : decode cX7_looksOn 218 = .ok (.getfield 151, 3) := by decide +kernel
theorem dX7_looksOn_221 : decode cX7_looksOn 221 = .ok (.isub, 1) := by decide +kernel
theorem dX7_looksOn_222 : decode cX7_looksOn 222 = .ok (.iconst 2, 1) := by decide +kernel
theorem dX7_looksOn_223 : decode cX7_looksOn 223 = .ok (.if_icmp .le 7, 3) := by decide +kernel
theorem dX7_looksOn_226 : decode cX7_looksOn 226 = .ok (.iconst 5, 1) := by decide +kernel
theorem dX7_looksOn_227 : decode cX7_looksOn 227 = .ok (.goto 4, 3) := by decide +kernel
theorem dX7_looksOn_230 : decode cX7_looksOn 230 = .ok (.iconst 2, 1) := by decide +kernel
theorem dX7_looksOn_231 : decode cX7_looksOn 231 = .ok (.putfield 156, 3) := by decide +kernel
theorem dX7_looksOn_234 : decode cX7_looksOn 234 = .ok (.goto 44, 3) := by decide +kernel
theorem dX7_looksOn_237 : decode cX7_looksOn 237 = .ok (.aload_n 0, 1) := by decide +kernel
theorem dX7_looksOn_238 : decode cX7_looksOn 238 = .ok (.iload_n 1, 1) := by decide +kernel
theorem dX7_looksOn_239 : decode cX7_looksOn 239 = .ok (.bipush 59, 2) := by decide +kernel
theorem dX7_looksOn_241 : decode cX7_looksOn 241 = .ok (.if_icmp .ne 7, 3) := by decide +kernel
theorem dX7_looksOn_244 : decode cX7_looksOn 244 = .ok (.iconst 3, 1) := by decide +kernel
theorem dX7_looksOn_245 : decode cX7_looksOn 245 = .ok (.goto 12, 3) := by decide +kernel
theorem dX7_looksOn_248 : decode cX7_looksOn 248 = .ok (.iload_n 1, 1) := by decide +kernel
theorem dX7_looksOn_249 : decode cX7_looksOn 249 = .ok (.ifCond .ge 7, 3) := by decide +kernel
theorem dX7_looksOn_252 : decode cX7_looksOn 252 = .ok (.iconst 4, 1) := by decide +kernel
theorem dX7_looksOn_253 : decode cX7_looksOn 253 = .ok (.goto 4, 3) := by decide +kernel
theorem dX7_looksOn_256 : decode cX7_looksOn 256 = .ok (.iconst 5, 1) := by decide +kernel
theorem dX7_looksOn_257 : decode cX7_looksOn 257 = .ok (.putfield 156, 3) := by decide +kernel
theorem dX7_looksOn_260 : decode cX7_looksOn 260 = .ok (.aload_n 0, 1) := by decide +kernel
theorem dX7_looksOn_261 : decode cX7_looksOn 261 = .ok (.dup, 1) := by decide +kernel
theorem dX7_looksOn_262 : decode cX7_looksOn 262 = .ok (.getfield 144, 3) := by decide +kernel
theorem dX7_looksOn_265 : decode cX7_looksOn 265 = .ok (.iload_n 1, 1) := by decide +kernel
theorem dX7_looksOn_266 : decode cX7_looksOn 266 = .ok (.ifCond .ge 7, 3) := by decide +kernel
theorem dX7_looksOn_269 : decode cX7_looksOn 269 = .ok (.iconst 0, 1) := by decide +kernel
theorem dX7_looksOn_270 : decode cX7_looksOn 270 = .ok (.goto 4, 3) := by decide +kernel
theorem dX7_looksOn_273 : decode cX7_looksOn 273 = .ok (.iconst 1, 1) := by decide +kernel
theorem dX7_looksOn_274 : decode cX7_looksOn 274 = .ok (.iadd, 1) := by decide +kernel
theorem dX7_looksOn_275 : decode cX7_looksOn 275 = .ok (.putfield 144, 3) := by decide +kernel
theorem dX7_looksOn_278 : decode cX7_looksOn 278 = .ok (.return_, 1) := by decide +kernel
theorem dX7_must_0 : decode cX7_must 0 = .ok (.aload_n 0, 1) := by decide +kernel
theorem dX7_must_1 : decode cX7_must 1 = .ok (.getfield 169, 3) := by decide +kernel
theorem dX7_must_4 : decode cX7_must 4 = .ok (.ifCond .ge 15, 3) := by decide +kernel
theorem dX7_must_7 : decode cX7_must 7 = .ok (.iload_n 1, 1) := by decide +kernel
theorem dX7_must_8 : decode cX7_must 8 = .ok (.ifCond .ne 11, 3) := by decide +kernel
theorem dX7_must_11 : decode cX7_must 11 = .ok (.aload_n 0, 1) := by decide +kernel
theorem dX7_must_12 : decode cX7_must 12 = .ok (.aload_n 0, 1) := by decide +kernel
theorem dX7_must_13 : decode cX7_must 13 = .ok (.getfield 151, 3) := by decide +kernel
theorem dX7_must_16 : decode cX7_must 16 = .ok (.putfield 169, 3) := by decide +kernel
theorem dX7_must_19 : decode cX7_must 19 = .ok (.aload_n 0, 1) := by decide +kernel
theorem dX7_must_20 : decode cX7_must 20 = .ok (.getfield 169, 3) := by decide +kernel
theorem dX7_must_23 : decode cX7_must 23 = .ok (.ifCond .ge 7, 3) := by decide +kernel
theorem dX7_must_26 : decode cX7_must 26 = .ok (.aload_n 0, 1) := by decide +kernel
theorem dX7_must_27 : decode cX7_must 27 = .ok (.invokevirtual 172, 3) := by decide +kernel
theorem dX7_must_30 : decode cX7_must 30 = .ok (.return_, 1) := by decide +kernel
theorem dX7_number_0 : decode cX7_number 0 = .ok (.aload_n 0, 1) := by decide +kernel
theorem dX7_number_1 : decode cX7_number 1 = .ok (.getfield 162, 3) := by decide +kernel
theorem dX7_number_4 : decode cX7_number 4 = .ok (.istore_n 3, 1) := by decide +kernel
theorem dX7_number_5 : decode cX7_number 5 = .ok (.aload_n 0, 1) := by decide +kernel
theorem dX7_number_6 : decode cX7_number 6 = .ok (.aload_n 0, 1) := by decide +kernel
theorem dX7_number_7 : decode cX7_number 7 = .ok (.getfield 156, 3) := by decide +kernel
theorem dX7_number_10 : decode cX7_number 10 = .ok (.iconst 2, 1) := by decide +kernel
theorem dX7_number_11 : decode cX7_number 11 = .ok (.if_icmp .ne 19, 3) := by decide +kernel
theorem dX7_number_14 : decode cX7_number 14 = .ok (.iload_n 3, 1) := by decide +kernel
theorem dX7_number_15 : decode cX7_number 15 = .ok (.i2l, 1) := by decide +kernel
theorem dX7_number_16 : decode cX7_number 16 = .ok (.iload_n 1, 1) := by decide +kernel
theorem dX7_number_17 : decode cX7_number 17 = .ok (.i2l, 1) := by decide +kernel
theorem dX7_number_18 : decode cX7_number 18 = .ok (.iload_n 2, 1) := by decide +kernel
theorem dX7_number_19 : decode cX7_number 19 = .ok (.i2l, 1) := by decide +kernel
theorem dX7_number_20 : decode cX7_number 20 = .ok (.invokestatic 52, 3) := by decide +kernel
theorem dX7_number_23 : decode cX7_number 23 = .ok (.ifCond .eq 7, 3) := by decide +kernel
theorem dX7_number_26 : decode cX7_number 26 = .ok (.iconst 1, 1) := by decide +kernel
theorem dX7_number_27 : decode cX7_number 27 = .ok (.goto 4, 3) := by decide +kernel
theorem dX7_number_30 : decode cX7_number 30 = .ok (.iconst 0, 1) := by decide +kernel
theorem dX7_number_31 : decode cX7_number 31 = .ok (.invokevirtual 175, 3) := by decide +kernel
theorem dX7_number_34 : decode cX7_number 34 = .ok (.iload_n 3, 1) := by decide +kernel
theorem dX7_number_35 : decode cX7_number 35 = .ok (.ireturn, 1) := by decide +kernel
theorem dX7_readsLimb_0 : decode cX7_readsLimb 0 = .ok (.aload_n 0, 1) := by decide +kernel
theorem dX7_readsLimb_1 : decode cX7_readsLimb 1 = .ok (.aload_n 0, 1) := by decide +kernel
theorem dX7_readsLimb_2 : decode cX7_readsLimb 2 = .ok (.getfield 7, 3) := by decide +kernel
theorem dX7_readsLimb_5 : decode cX7_readsLimb 5 = .ok (.iconst 0, 1) := by decide +kernel
theorem dX7_readsLimb_6 : decode cX7_readsLimb 6 = .ok (.iaload, 1) := by decide +kernel
theorem dX7_readsLimb_7 : decode cX7_readsLimb 7 = .ok (.bipush 7, 2) := by decide +kernel
theorem dX7_readsLimb_9 : decode cX7_readsLimb 9 = .ok (.if_icmp .ge 7, 3) := by decide +kernel
theorem dX7_readsLimb_12 : decode cX7_readsLimb 12 = .ok (.iconst 1, 1) := by decide +kernel
theorem dX7_readsLimb_13 : decode cX7_readsLimb 13 = .ok (.goto 4, 3) := by decide +kernel
theorem dX7_readsLimb_16 : decode cX7_readsLimb 16 = .ok (.iconst 0, 1) := by decide +kernel
theorem dX7_readsLimb_17 : decode cX7_readsLimb 17 = .ok (.invokevirtual 175, 3) := by decide +kernel
theorem dX7_readsLimb_20 : decode cX7_readsLimb 20 = .ok (.aload_n 0, 1) := by decide +kernel
theorem dX7_readsLimb_21 : decode cX7_readsLimb 21 = .ok (.iconst 0, 1) := by decide +kernel
theorem dX7_readsLimb_22 : decode cX7_readsLimb 22 = .ok (.iconst 5, 1) := by decide +kernel
theorem dX7_readsLimb_23 : decode cX7_readsLimb 23 = .ok (.invokevirtual 179, 3) := by decide +kernel
theorem dX7_readsLimb_26 : decode cX7_readsLimb 26 = .ok (.istore_n 1, 1) := by decide +kernel
theorem dX7_readsLimb_27 : decode cX7_readsLimb 27 = .ok (.aload_n 0, 1) := by decide +kernel
theorem dX7_readsLimb_28 : decode cX7_readsLimb 28 = .ok (.iconst 0, 1) := by decide +kernel
theorem dX7_readsLimb_29 : decode cX7_readsLimb 29 = .ok (.iconst 5, 1) := by decide +kernel
theorem dX7_readsLimb_30 : decode cX7_readsLimb 30 = .ok (.invokevirtual 179, 3) := by decide +kernel
theorem dX7_readsLimb_33 : decode cX7_readsLimb 33 = .ok (.istore_n 2, 1) := by decide +kernel
theorem dX7_readsLimb_34 : decode cX7_readsLimb 34 = .ok (.aload_n 0, 1) := by decide +kernel
theorem dX7_readsLimb_35 : decode cX7_readsLimb 35 = .ok (.iconst 1, 1) := by decide +kernel
theorem dX7_readsLimb_36 : decode cX7_readsLimb 36 = .ok (.bipush 9, 2) := by decide +kernel
theorem dX7_readsLimb_38 : decode cX7_readsLimb 38 = .ok (.invokevirtual 179, 3) := by decide +kernel
theorem dX7_readsLimb_41 : decode cX7_readsLimb 41 = .ok (.istore_n 3, 1) := by decide +kernel
theorem dX7_readsLimb_42 : decode cX7_readsLimb 42 = .ok (.aload_n 0, 1) := by decide +kernel
theorem dX7_readsLimb_43 : decode cX7_readsLimb 43 = .ok (.iconst 1, 1) := by decide +kernel
theorem dX7_readsLimb_44 : decode cX7_readsLimb 44 = .ok (.bipush 20, 2) := by decide +kernel
theorem dX7_readsLimb_46 : decode cX7_readsLimb 46 = .ok (.invokevirtual 179, 3) := by decide +kernel
theorem dX7_readsLimb_49 : decode cX7_readsLimb 49 = .ok (.istore 4, 2) := by decide +kernel
theorem dX7_readsLimb_51 : decode cX7_readsLimb 51 = .ok (.aload_n 0, 1) := by decide +kernel
theorem dX7_readsLimb_52 : decode cX7_readsLimb 52 = .ok (.iconst 0, 1) := by decide +kernel
theorem dX7_readsLimb_53 : decode cX7_readsLimb 53 = .ok (.bipush 8, 2) := by decide +kernel
theorem dX7_readsLimb_55 : decode cX7_readsLimb 55 = .ok (.invokevirtual 179, 3) := by decide +kernel
theorem dX7_readsLimb_58 : decode cX7_readsLimb 58 = .ok (.istore 5, 2) := by decide +kernel
theorem dX7_readsLimb_60 : decode cX7_readsLimb 60 = .ok (.aload_n 0, 1) := by decide +kernel
theorem dX7_readsLimb_61 : decode cX7_readsLimb 61 = .ok (.getfield 169, 3) := by decide +kernel
theorem dX7_readsLimb_64 : decode cX7_readsLimb 64 = .ok (.ifCond .ge 14, 3) := by decide +kernel
theorem dX7_readsLimb_67 : decode cX7_readsLimb 67 = .ok (.aload_n 0, 1) := by decide +kernel
theorem dX7_readsLimb_68 : decode cX7_readsLimb 68 = .ok (.iload_n 1, 1) := by decide +kernel
theorem dX7_readsLimb_69 : decode cX7_readsLimb 69 = .ok (.iload_n 2, 1) := by decide +kernel
theorem dX7_readsLimb_70 : decode cX7_readsLimb 70 = .ok (.iload_n 3, 1) := by decide +kernel
theorem dX7_readsLimb_71 : decode cX7_readsLimb 71 = .ok (.iload 4, 2) := by decide +kernel
theorem dX7_readsLimb_73 : decode cX7_readsLimb 73 = .ok (.iload 5, 2) := by decide +kernel
theorem dX7_readsLimb_75 : decode cX7_readsLimb 75 = .ok (.invokevirtual 103, 3) := by decide +kernel
theorem dX7_readsLimb_78 : decode cX7_readsLimb 78 = .ok (.return_, 1) := by decide +kernel
theorem dX7_readsMoves_0 : decode cX7_readsMoves 0 = .ok (.aload_n 0, 1) := by decide +kernel
theorem dX7_readsMoves_1 : decode cX7_readsMoves 1 = .ok (.iconst 1, 1) := by decide +kernel
theorem dX7_readsMoves_2 : decode cX7_readsMoves 2 = .ok (.invokevirtual 175, 3) := by decide +kernel
theorem dX7_readsMoves_5 : decode cX7_readsMoves 5 = .ok (.iconst 0, 1) := by decide +kernel
theorem dX7_readsMoves_6 : decode cX7_readsMoves 6 = .ok (.istore_n 1, 1) := by decide +kernel
theorem dX7_readsMoves_7 : decode cX7_readsMoves 7 = .ok (.aload_n 0, 1) := by decide +kernel
theorem dX7_readsMoves_8 : decode cX7_readsMoves 8 = .ok (.getfield 169, 3) := by decide +kernel
theorem dX7_readsMoves_11 : decode cX7_readsMoves 11 = .ok (.ifCond .ge 73, 3) := by decide +kernel
theorem dX7_readsMoves_14 : decode cX7_readsMoves 14 = .ok (.iload_n 1, 1) := by decide +kernel
theorem dX7_readsMoves_15 : decode cX7_readsMoves 15 = .ok (.ifCond .eq 11, 3) := by decide +kernel
theorem dX7_readsMoves_18 : decode cX7_readsMoves 18 = .ok (.aload_n 0, 1) := by decide +kernel
theorem dX7_readsMoves_19 : decode cX7_readsMoves 19 = .ok (.getfield 156, 3) := by decide +kernel
theorem dX7_readsMoves_22 : decode cX7_readsMoves 22 = .ok (.iconst 3, 1) := by decide +kernel
theorem dX7_readsMoves_23 : decode cX7_readsMoves 23 = .ok (.if_icmp .eq 61, 3) := by decide +kernel
theorem dX7_readsMoves_26 : decode cX7_readsMoves 26 = .ok (.aload_n 0, 1) := by decide +kernel
theorem dX7_readsMoves_27 : decode cX7_readsMoves 27 = .ok (.getfield 162, 3) := by decide +kernel
theorem dX7_readsMoves_30 : decode cX7_readsMoves 30 = .ok (.istore_n 2, 1) := by decide +kernel
theorem dX7_readsMoves_31 : decode cX7_readsMoves 31 = .ok (.aload_n 0, 1) := by decide +kernel
theorem dX7_readsMoves_32 : decode cX7_readsMoves 32 = .ok (.aload_n 0, 1) := by decide +kernel
theorem dX7_readsMoves_33 : decode cX7_readsMoves 33 = .ok (.getfield 156, 3) := by decide +kernel
theorem dX7_readsMoves_36 : decode cX7_readsMoves 36 = .ok (.iconst 2, 1) := by decide +kernel
theorem dX7_readsMoves_37 : decode cX7_readsMoves 37 = .ok (.if_icmp .ne 25, 3) := by decide +kernel
theorem dX7_readsMoves_40 : decode cX7_readsMoves 40 = .ok (.iload_n 2, 1) := by decide +kernel
theorem dX7_readsMoves_41 : decode cX7_readsMoves 41 = .ok (.i2l, 1) := by decide +kernel
theorem dX7_readsMoves_42 : decode cX7_readsMoves 42 = .ok (.lconst 0, 1) := by decide +kernel
theorem dX7_readsMoves_43 : decode cX7_readsMoves 43 = .ok (.ldc2_w 182, 3) := by decide +kernel
theorem dX7_readsMoves_46 : decode cX7_readsMoves 46 = .ok (.invokestatic 52, 3) := by decide +kernel
theorem dX7_readsMoves_49 : decode cX7_readsMoves 49 = .ok (.ifCond .eq 13, 3) := by decide +kernel
theorem dX7_readsMoves_52 : decode cX7_readsMoves 52 = .ok (.iload_n 1, 1) := by decide +kernel
theorem dX7_readsMoves_53 : decode cX7_readsMoves 53 = .ok (.bipush 9, 2) := by decide +kernel
theorem dX7_readsMoves_55 : decode cX7_readsMoves 55 = .ok (.if_icmp .ge 7, 3) := by decide +kernel
theorem dX7_readsMoves_58 : decode cX7_readsMoves 58 = .ok (.iconst 1, 1) := by decide +kernel
theorem dX7_readsMoves_59 : decode cX7_readsMoves 59 = .ok (.goto 4, 3) := by decide +kernel
theorem dX7_readsMoves_62 : decode cX7_readsMoves 62 = .ok (.iconst 0, 1) := by decide +kernel
theorem dX7_readsMoves_63 : decode cX7_readsMoves 63 = .ok (.invokevirtual 175, 3) := by decide +kernel
theorem dX7_readsMoves_66 : decode cX7_readsMoves 66 = .ok (.aload_n 0, 1) := by decide +kernel
theorem dX7_readsMoves_67 : decode cX7_readsMoves 67 = .ok (.getfield 169, 3) := by decide +kernel
theorem dX7_readsMoves_70 : decode cX7_readsMoves 70 = .ok (.ifCond .ge 8, 3) := by decide +kernel
theorem dX7_readsMoves_73 : decode cX7_readsMoves 73 = .ok (.aload_n 0, 1) := by decide +kernel
theorem dX7_readsMoves_74 : decode cX7_readsMoves 74 = .ok (.iload_n 2, 1) := by decide +kernel
theorem dX7_readsMoves_75 : decode cX7_readsMoves 75 = .ok (.invokevirtual 184, 3) := by decide +kernel
theorem dX7_readsMoves_78 : decode cX7_readsMoves 78 = .ok (.iinc 1 1, 3) := by decide +kernel
theorem dX7_readsMoves_81 : decode cX7_readsMoves 81 = .ok (.goto (-74), 3) := by decide +kernel
theorem dX7_readsMoves_84 : decode cX7_readsMoves 84 = .ok (.return_, 1) := by decide +kernel
theorem dX7_readsItem_0 : decode cX7_readsItem 0 = .ok (.aload_n 0, 1) := by decide +kernel
theorem dX7_readsItem_1 : decode cX7_readsItem 1 = .ok (.getfield 156, 3) := by decide +kernel
theorem dX7_readsItem_4 : decode cX7_readsItem 4 = .ok (.iconst 1, 1) := by decide +kernel
theorem dX7_readsItem_5 : decode cX7_readsItem 5 = .ok (.if_icmp .ne 10, 3) := by decide +kernel
theorem dX7_readsItem_8 : decode cX7_readsItem 8 = .ok (.aload_n 0, 1) := by decide +kernel
theorem dX7_readsItem_9 : decode cX7_readsItem 9 = .ok (.getfield 162, 3) := by decide +kernel
theorem dX7_readsItem_12 : decode cX7_readsItem 12 = .ok (.goto 4, 3) := by decide +kernel
theorem dX7_readsItem_15 : decode cX7_readsItem 15 = .ok (.iconst 0, 1) := by decide +kernel
theorem dX7_readsItem_16 : decode cX7_readsItem 16 = .ok (.istore_n 1, 1) := by decide +kernel
theorem dX7_readsItem_17 : decode cX7_readsItem 17 = .ok (.iload_n 1, 1) := by decide +kernel
theorem dX7_readsItem_18 : decode cX7_readsItem 18 = .ok (.iconst 2, 1) := by decide +kernel
theorem dX7_readsItem_19 : decode cX7_readsItem 19 = .ok (.if_icmp .ne 10, 3) := by decide +kernel
theorem dX7_readsItem_22 : decode cX7_readsItem 22 = .ok (.aload_n 0, 1) := by decide +kernel
theorem dX7_readsItem_23 : decode cX7_readsItem 23 = .ok (.invokevirtual 187, 3) := by decide +kernel
theorem dX7_readsItem_26 : decode cX7_readsItem 26 = .ok (.goto 132, 3) := by decide +kernel
theorem dX7_readsItem_29 : decode cX7_readsItem 29 = .ok (.iload_n 1, 1) := by decide +kernel
theorem dX7_readsItem_30 : decode cX7_readsItem 30 = .ok (.iconst 3, 1) := by decide +kernel
theorem dX7_readsItem_31 : decode cX7_readsItem 31 = .ok (.if_icmp .ne 10, 3) := by decide +kernel
theorem dX7_readsItem_34 : decode cX7_readsItem 34 = .ok (.aload_n 0, 1) := by decide +kernel
theorem dX7_readsItem_35 : decode cX7_readsItem 35 = .ok (.invokevirtual 190, 3) := by decide +kernel
theorem dX7_readsItem_38 : decode cX7_readsItem 38 = .ok (.goto 120, 3) := by decide +kernel
theorem dX7_readsItem_41 : decode cX7_readsItem 41 = .ok (.iload_n 1, 1) := by decide +kernel
theorem dX7_readsItem_42 : decode cX7_readsItem 42 = .ok (.iconst 4, 1) := by decide +kernel
theorem dX7_readsItem_43 : decode cX7_readsItem 43 = .ok (.if_icmp .ne 61, 3) := by decide +kernel
theorem dX7_readsItem_46 : decode cX7_readsItem 46 = .ok (.aload_n 0, 1) := by decide +kernel
theorem dX7_readsItem_47 : decode cX7_readsItem 47 = .ok (.iconst 1, 1) := by decide +kernel
theorem dX7_readsItem_48 : decode cX7_readsItem 48 = .ok (.invokevirtual 175, 3) := by decide +kernel
theorem dX7_readsItem_51 : decode cX7_readsItem 51 = .ok (.aload_n 0, 1) := by decide +kernel
theorem dX7_readsItem_52 : decode cX7_readsItem 52 = .ok (.getfield 162, 3) := by decide +kernel
theorem dX7_readsItem_55 : decode cX7_readsItem 55 = .ok (.istore_n 2, 1) := by decide +kernel
theorem dX7_readsItem_56 : decode cX7_readsItem 56 = .ok (.aload_n 0, 1) := by decide +kernel
theorem dX7_readsItem_57 : decode cX7_readsItem 57 = .ok (.aload_n 0, 1) := by decide +kernel
theorem dX7_readsItem_58 : decode cX7_readsItem 58 = .ok (.getfield 156, 3) := by decide +kernel
theorem dX7_readsItem_61 : decode cX7_readsItem 61 = .ok (.iconst 2, 1) := by decide +kernel
theorem dX7_readsItem_62 : decode cX7_readsItem 62 = .ok (.if_icmp .ne 23, 3) := by decide +kernel
theorem dX7_readsItem_65 : decode cX7_readsItem 65 = .ok (.aload_n 0, 1) := by decide +kernel
theorem dX7_readsItem_66 : decode cX7_readsItem 66 = .ok (.iload_n 2, 1) := by decide +kernel
theorem dX7_readsItem_67 : decode cX7_readsItem 67 = .ok (.invokevirtual 193, 3) := by decide +kernel
theorem dX7_readsItem_70 : decode cX7_readsItem 70 = .ok (.ifCond .eq 15, 3) := by decide +kernel
theorem dX7_readsItem_73 : decode cX7_readsItem 73 = .ok (.aload_n 0, 1) := by decide +kernel
theorem dX7_readsItem_74 : decode cX7_readsItem 74 = .ok (.iload_n 2, 1) := by decide +kernel
theorem dX7_readsItem_75 : decode cX7_readsItem 75 = .ok (.invokevirtual 60, 3) := by decide +kernel
theorem dX7_readsItem_78 : decode cX7_readsItem 78 = .ok (.ifCond .eq 7, 3) := by decide +kernel
theorem dX7_readsItem_81 : decode cX7_readsItem 81 = .ok (.iconst 1, 1) := by decide +kernel
theorem dX7_readsItem_82 : decode cX7_readsItem 82 = .ok (.goto 4, 3) := by decide +kernel
theorem dX7_readsItem_85 : decode cX7_readsItem 85 = .ok (.iconst 0, 1) := by decide +kernel
theorem dX7_readsItem_86 : decode cX7_readsItem 86 = .ok (.invokevirtual 175, 3) := by decide +kernel
theorem dX7_readsItem_89 : decode cX7_readsItem 89 = .ok (.aload_n 0, 1) := by decide +kernel
theorem dX7_readsItem_90 : decode cX7_readsItem 90 = .ok (.getfield 169, 3) := by decide +kernel
theorem dX7_readsItem_93 : decode cX7_readsItem 93 = .ok (.ifCond .ge 8, 3) := by decide +kernel
theorem dX7_readsItem_96 : decode cX7_readsItem 96 = .ok (.aload_n 0, 1) := by decide +kernel
theorem dX7_readsItem_97 : decode cX7_readsItem 97 = .ok (.iload_n 2, 1) := by decide +kernel
theorem dX7_readsItem_98 : decode cX7_readsItem 98 = .ok (.invokevirtual 196, 3) := by decide +kernel
theorem dX7_readsItem_101 : decode cX7_readsItem 101 = .ok (.goto 57, 3) := by decide +kernel
theorem dX7_readsItem_104 : decode cX7_readsItem 104 = .ok (.iload_n 1, 1) := by decide +kernel
theorem dX7_readsItem_105 : decode cX7_readsItem 105 = .ok (.iconst 5, 1) := by decide +kernel
theorem dX7_readsItem_106 : decode cX7_readsItem 106 = .ok (.if_icmp .ne 47, 3) := by decide +kernel
theorem dX7_readsItem_109 : decode cX7_readsItem 109 = .ok (.aload_n 0, 1) := by decide +kernel
theorem dX7_readsItem_110 : decode cX7_readsItem 110 = .ok (.iconst 1, 1) := by decide +kernel
theorem dX7_readsItem_111 : decode cX7_readsItem 111 = .ok (.invokevirtual 175, 3) := by decide +kernel
theorem dX7_readsItem_114 : decode cX7_readsItem 114 = .ok (.aload_n 0, 1) := by decide +kernel
theorem dX7_readsItem_115 : decode cX7_readsItem 115 = .ok (.iconst 0, 1) := by decide +kernel
theorem dX7_readsItem_116 : decode cX7_readsItem 116 = .ok (.aload_n 0, 1) := by decide +kernel
theorem dX7_readsItem_117 : decode cX7_readsItem 117 = .ok (.getfield 7, 3) := by decide +kernel
theorem dX7_readsItem_120 : decode cX7_readsItem 120 = .ok (.iconst 0, 1) := by decide +kernel
theorem dX7_readsItem_121 : decode cX7_readsItem 121 = .ok (.iaload, 1) := by decide +kernel
theorem dX7_readsItem_122 : decode cX7_readsItem 122 = .ok (.iconst 1, 1) := by decide +kernel
theorem dX7_readsItem_123 : decode cX7_readsItem 123 = .ok (.isub, 1) := by decide +kernel
theorem dX7_readsItem_124 : decode cX7_readsItem 124 = .ok (.invokevirtual 179, 3) := by decide +kernel
theorem dX7_readsItem_127 : decode cX7_readsItem 127 = .ok (.istore_n 2, 1) := by decide +kernel
theorem dX7_readsItem_128 : decode cX7_readsItem 128 = .ok (.aload_n 0, 1) := by decide +kernel
theorem dX7_readsItem_129 : decode cX7_readsItem 129 = .ok (.iconst 0, 1) := by decide +kernel
theorem dX7_readsItem_130 : decode cX7_readsItem 130 = .ok (.bipush 8, 2) := by decide +kernel
theorem dX7_readsItem_132 : decode cX7_readsItem 132 = .ok (.invokevirtual 179, 3) := by decide +kernel
theorem dX7_readsItem_135 : decode cX7_readsItem 135 = .ok (.istore_n 3, 1) := by decide +kernel
theorem dX7_readsItem_136 : decode cX7_readsItem 136 = .ok (.aload_n 0, 1) := by decide +kernel
theorem dX7_readsItem_137 : decode cX7_readsItem 137 = .ok (.getfield 169, 3) := by decide +kernel
theorem dX7_readsItem_140 : decode cX7_readsItem 140 = .ok (.ifCond .ge 10, 3) := by decide +kernel
theorem dX7_readsItem_143 : decode cX7_readsItem 143 = .ok (.aload_n 0, 1) := by decide +kernel
theorem dX7_readsItem_144 : decode cX7_readsItem 144 = .ok (.iload_n 2, 1) := by decide +kernel
theorem dX7_readsItem_145 : decode cX7_readsItem 145 = .ok (.iconst 4, 1) := by decide +kernel
theorem dX7_readsItem_146 : decode cX7_readsItem 146 = .ok (.iload_n 3, 1) := by decide +kernel
theorem dX7_readsItem_147 : decode cX7_readsItem 147 = .ok (.invokevirtual 75, 3) := by decide +kernel
theorem dX7_readsItem_150 : decode cX7_readsItem 150 = .ok (.goto 8, 3) := by decide +kernel
theorem dX7_readsItem_153 : decode cX7_readsItem 153 = .ok (.aload_n 0, 1) := by decide +kernel
theorem dX7_readsItem_154 : decode cX7_readsItem 154 = .ok (.iconst 0, 1) := by decide +kernel
theorem dX7_readsItem_155 : decode cX7_readsItem 155 = .ok (.invokevirtual 175, 3) := by decide +kernel
theorem dX7_readsItem_158 : decode cX7_readsItem 158 = .ok (.aload_n 0, 1) := by decide +kernel
theorem dX7_readsItem_159 : decode cX7_readsItem 159 = .ok (.aload_n 0, 1) := by decide +kernel
theorem dX7_readsItem_160 : decode cX7_readsItem 160 = .ok (.getfield 156, 3) := by decide +kernel
theorem dX7_readsItem_163 : decode cX7_readsItem 163 = .ok (.iconst 3, 1) := by decide +kernel
theorem dX7_readsItem_164 : decode cX7_readsItem 164 = .ok (.if_icmp .ne 7, 3) := by decide +kernel
theorem dX7_readsItem_167 : decode cX7_readsItem 167 = .ok (.iconst 1, 1) := by decide +kernel
theorem dX7_readsItem_168 : decode cX7_readsItem 168 = .ok (.goto 4, 3) := by decide +kernel
theorem dX7_readsItem_171 : decode cX7_readsItem 171 = .ok (.iconst 0, 1) := by decide +kernel
theorem dX7_readsItem_172 : decode cX7_readsItem 172 = .ok (.invokevirtual 175, 3) := by decide +kernel
theorem dX7_readsItem_175 : decode cX7_readsItem 175 = .ok (.return_, 1) := by decide +kernel
theorem dX7_read_0 : decode cX7_read 0 = .ok (.iconst 0, 1) := by decide +kernel
theorem dX7_read_1 : decode cX7_read 1 = .ok (.istore_n 1, 1) := by decide +kernel
theorem dX7_read_2 : decode cX7_read 2 = .ok (.iload_n 1, 1) := by decide +kernel
theorem dX7_read_3 : decode cX7_read 3 = .ok (.sipush 340, 3) := by decide +kernel
theorem dX7_read_6 : decode cX7_read 6 = .ok (.if_icmp .ge 21, 3) := by decide +kernel
theorem dX7_read_9 : decode cX7_read 9 = .ok (.aload_n 0, 1) := by decide +kernel
theorem dX7_read_10 : decode cX7_read 10 = .ok (.getfield 20, 3) := by decide +kernel
theorem dX7_read_13 : decode cX7_read 13 = .ok (.iload_n 1, 1) := by decide +kernel
theorem dX7_read_14 : decode cX7_read 14 = .ok (.aload_n 0, 1) := by decide +kernel
theorem dX7_read_15 : decode cX7_read 15 = .ok (.getfield 7, 3) := by decide +kernel
theorem dX7_read_18 : decode cX7_read 18 = .ok (.iload_n 1, 1) := by decide +kernel
theorem dX7_read_19 : decode cX7_read 19 = .ok (.iaload, 1) := by decide +kernel
theorem dX7_read_20 : decode cX7_read 20 = .ok (.iastore, 1) := by decide +kernel
theorem dX7_read_21 : decode cX7_read 21 = .ok (.iinc 1 1, 3) := by decide +kernel
theorem dX7_read_24 : decode cX7_read 24 = .ok (.goto (-22), 3) := by decide +kernel
theorem dX7_read_27 : decode cX7_read 27 = .ok (.aload_n 0, 1) := by decide +kernel
theorem dX7_read_28 : decode cX7_read 28 = .ok (.iconst 0, 1) := by decide +kernel
theorem dX7_read_29 : decode cX7_read 29 = .ok (.putfield 144, 3) := by decide +kernel
theorem dX7_read_32 : decode cX7_read 32 = .ok (.aload_n 0, 1) := by decide +kernel
theorem dX7_read_33 : decode cX7_read 33 = .ok (.iconst (-1), 1) := by decide +kernel
theorem dX7_read_34 : decode cX7_read 34 = .ok (.putfield 169, 3) := by decide +kernel
theorem dX7_read_37 : decode cX7_read 37 = .ok (.aload_n 0, 1) := by decide +kernel
theorem dX7_read_38 : decode cX7_read 38 = .ok (.invokevirtual 172, 3) := by decide +kernel
theorem dX7_read_41 : decode cX7_read 41 = .ok (.aload_n 0, 1) := by decide +kernel
theorem dX7_read_42 : decode cX7_read 42 = .ok (.aload_n 0, 1) := by decide +kernel
theorem dX7_read_43 : decode cX7_read 43 = .ok (.getfield 156, 3) := by decide +kernel
theorem dX7_read_46 : decode cX7_read 46 = .ok (.iconst 1, 1) := by decide +kernel
theorem dX7_read_47 : decode cX7_read 47 = .ok (.if_icmp .ne 15, 3) := by decide +kernel
theorem dX7_read_50 : decode cX7_read 50 = .ok (.aload_n 0, 1) := by decide +kernel
theorem dX7_read_51 : decode cX7_read 51 = .ok (.getfield 162, 3) := by decide +kernel
theorem dX7_read_54 : decode cX7_read 54 = .ok (.iconst 1, 1) := by decide +kernel
theorem dX7_read_55 : decode cX7_read 55 = .ok (.if_icmp .ne 7, 3) := by decide +kernel
theorem dX7_read_58 : decode cX7_read 58 = .ok (.iconst 1, 1) := by decide +kernel
theorem dX7_read_59 : decode cX7_read 59 = .ok (.goto 4, 3) := by decide +kernel
theorem dX7_read_62 : decode cX7_read 62 = .ok (.iconst 0, 1) := by decide +kernel
theorem dX7_read_63 : decode cX7_read 63 = .ok (.invokevirtual 175, 3) := by decide +kernel
theorem dX7_read_66 : decode cX7_read 66 = .ok (.aload_n 0, 1) := by decide +kernel
theorem dX7_read_67 : decode cX7_read 67 = .ok (.iconst 0, 1) := by decide +kernel
theorem dX7_read_68 : decode cX7_read 68 = .ok (.bipush 40, 2) := by decide +kernel
theorem dX7_read_70 : decode cX7_read 70 = .ok (.invokevirtual 179, 3) := by decide +kernel
theorem dX7_read_73 : decode cX7_read 73 = .ok (.istore_n 1, 1) := by decide +kernel
theorem dX7_read_74 : decode cX7_read 74 = .ok (.aload_n 0, 1) := by decide +kernel
theorem dX7_read_75 : decode cX7_read 75 = .ok (.aload_n 0, 1) := by decide +kernel
theorem dX7_read_76 : decode cX7_read 76 = .ok (.getfield 156, 3) := by decide +kernel
theorem dX7_read_79 : decode cX7_read 79 = .ok (.iconst 3, 1) := by decide +kernel
theorem dX7_read_80 : decode cX7_read 80 = .ok (.if_icmp .ne 7, 3) := by decide +kernel
theorem dX7_read_83 : decode cX7_read 83 = .ok (.iconst 1, 1) := by decide +kernel
theorem dX7_read_84 : decode cX7_read 84 = .ok (.goto 4, 3) := by decide +kernel
theorem dX7_read_87 : decode cX7_read 87 = .ok (.iconst 0, 1) := by decide +kernel
theorem dX7_read_88 : decode cX7_read 88 = .ok (.invokevirtual 175, 3) := by decide +kernel
theorem dX7_read_91 : decode cX7_read 91 = .ok (.iconst 1, 1) := by decide +kernel
theorem dX7_read_92 : decode cX7_read 92 = .ok (.istore_n 2, 1) := by decide +kernel
theorem dX7_read_93 : decode cX7_read 93 = .ok (.aload_n 0, 1) := by decide +kernel
theorem dX7_read_94 : decode cX7_read 94 = .ok (.getfield 169, 3) := by decide +kernel
theorem dX7_read_97 : decode cX7_read 97 = .ok (.ifCond .ge 8, 3) := by decide +kernel
theorem dX7_read_100 : decode cX7_read 100 = .ok (.aload_n 0, 1) := by decide +kernel
theorem dX7_read_101 : decode cX7_read 101 = .ok (.iload_n 1, 1) := by decide +kernel
theorem dX7_read_102 : decode cX7_read 102 = .ok (.invokevirtual 38, 3) := by decide +kernel
theorem dX7_read_105 : decode cX7_read 105 = .ok (.aload_n 0, 1) := by decide +kernel
theorem dX7_read_106 : decode cX7_read 106 = .ok (.getfield 169, 3) := by decide +kernel
theorem dX7_read_109 : decode cX7_read 109 = .ok (.ifCond .ge 21, 3) := by decide +kernel
theorem dX7_read_112 : decode cX7_read 112 = .ok (.aload_n 0, 1) := by decide +kernel
theorem dX7_read_113 : decode cX7_read 113 = .ok (.getfield 156, 3) := by decide +kernel
theorem dX7_read_116 : decode cX7_read 116 = .ok (.iconst 4, 1) := by decide +kernel
theorem dX7_read_117 : decode cX7_read 117 = .ok (.if_icmp .eq 13, 3) := by decide +kernel
theorem dX7_read_120 : decode cX7_read 120 = .ok (.aload_n 0, 1) := by decide +kernel
theorem dX7_read_121 : decode cX7_read 121 = .ok (.invokevirtual 199, 3) := by decide +kernel
theorem dX7_read_124 : decode cX7_read 124 = .ok (.iinc 2 1, 3) := by decide +kernel
theorem dX7_read_127 : decode cX7_read 127 = .ok (.goto (-22), 3) := by decide +kernel
theorem dX7_read_130 : decode cX7_read 130 = .ok (.aload_n 0, 1) := by decide +kernel
theorem dX7_read_131 : decode cX7_read 131 = .ok (.getfield 169, 3) := by decide +kernel
theorem dX7_read_134 : decode cX7_read 134 = .ok (.ifCond .ge 14, 3) := by decide +kernel
theorem dX7_read_137 : decode cX7_read 137 = .ok (.aload_n 0, 1) := by decide +kernel
theorem dX7_read_138 : decode cX7_read 138 = .ok (.getfield 7, 3) := by decide +kernel
theorem dX7_read_141 : decode cX7_read 141 = .ok (.sipush 147, 3) := by decide +kernel
theorem dX7_read_144 : decode cX7_read 144 = .ok (.iconst 0, 1) := by decide +kernel
theorem dX7_read_145 : decode cX7_read 145 = .ok (.iastore, 1) := by decide +kernel
theorem dX7_read_146 : decode cX7_read 146 = .ok (.iload_n 2, 1) := by decide +kernel
theorem dX7_read_147 : decode cX7_read 147 = .ok (.ireturn, 1) := by decide +kernel
theorem dX7_read_148 : decode cX7_read 148 = .ok (.iconst 0, 1) := by decide +kernel
theorem dX7_read_149 : decode cX7_read 149 = .ok (.istore_n 3, 1) := by decide +kernel
theorem dX7_read_150 : decode cX7_read 150 = .ok (.iload_n 3, 1) := by decide +kernel
theorem dX7_read_151 : decode cX7_read 151 = .ok (.sipush 340, 3) := by decide +kernel
theorem dX7_read_154 : decode cX7_read 154 = .ok (.if_icmp .ge 21, 3) := by decide +kernel
theorem dX7_read_157 : decode cX7_read 157 = .ok (.aload_n 0, 1) := by decide +kernel
theorem dX7_read_158 : decode cX7_read 158 = .ok (.getfield 7, 3) := by decide +kernel
theorem dX7_read_161 : decode cX7_read 161 = .ok (.iload_n 3, 1) := by decide +kernel
theorem dX7_read_162 : decode cX7_read 162 = .ok (.aload_n 0, 1) := by decide +kernel
theorem dX7_read_163 : decode cX7_read 163 = .ok (.getfield 20, 3) := by decide +kernel
theorem dX7_read_166 : decode cX7_read 166 = .ok (.iload_n 3, 1) := by decide +kernel
theorem dX7_read_167 : decode cX7_read 167 = .ok (.iaload, 1) := by decide +kernel
theorem dX7_read_168 : decode cX7_read 168 = .ok (.iastore, 1) := by decide +kernel
theorem dX7_read_169 : decode cX7_read 169 = .ok (.iinc 3 1, 3) := by decide +kernel
theorem dX7_read_172 : decode cX7_read 172 = .ok (.goto (-22), 3) := by decide +kernel
theorem dX7_read_175 : decode cX7_read 175 = .ok (.bipush (-10), 2) := by decide +kernel
theorem dX7_read_177 : decode cX7_read 177 = .ok (.aload_n 0, 1) := by decide +kernel
theorem dX7_read_178 : decode cX7_read 178 = .ok (.getfield 169, 3) := by decide +kernel
theorem dX7_read_181 : decode cX7_read 181 = .ok (.isub, 1) := by decide +kernel
theorem dX7_read_182 : decode cX7_read 182 = .ok (.ireturn, 1) := by decide +kernel
theorem dX7_notes_0 : decode cX7_notes 0 = .ok (.aload_n 0, 1) := by decide +kernel
theorem dX7_notes_1 : decode cX7_notes 1 = .ok (.getfield 7, 3) := by decide +kernel
theorem dX7_notes_4 : decode cX7_notes 4 = .ok (.sipush 147, 3) := by decide +kernel
theorem dX7_notes_7 : decode cX7_notes 7 = .ok (.iaload, 1) := by decide +kernel
theorem dX7_notes_8 : decode cX7_notes 8 = .ok (.bipush 8, 2) := by decide +kernel
theorem dX7_notes_10 : decode cX7_notes 10 = .ok (.if_icmp .ne 45, 3) := by decide +kernel
theorem dX7_notes_13 : decode cX7_notes 13 = .ok (.sipush 172, 3) := by decide +kernel
theorem dX7_notes_16 : decode cX7_notes 16 = .ok (.istore_n 1, 1) := by decide +kernel
theorem dX7_notes_17 : decode cX7_notes 17 = .ok (.iload_n 1, 1) := by decide +kernel
theorem dX7_notes_18 : decode cX7_notes 18 = .ok (.sipush 340, 3) := by decide +kernel
theorem dX7_notes_21 : decode cX7_notes 21 = .ok (.if_icmp .ge 24, 3) := by decide +kernel
theorem dX7_notes_24 : decode cX7_notes 24 = .ok (.aload_n 0, 1) := by decide +kernel
theorem dX7_notes_25 : decode cX7_notes 25 = .ok (.getfield 7, 3) := by decide +kernel
theorem dX7_notes_28 : decode cX7_notes 28 = .ok (.iload_n 1, 1) := by decide +kernel
theorem dX7_notes_29 : decode cX7_notes 29 = .ok (.bipush 24, 2) := by decide +kernel
theorem dX7_notes_31 : decode cX7_notes 31 = .ok (.isub, 1) := by decide +kernel
theorem dX7_notes_32 : decode cX7_notes 32 = .ok (.aload_n 0, 1) := by decide +kernel
theorem dX7_notes_33 : decode cX7_notes 33 = .ok (.getfield 7, 3) := by decide +kernel
theorem dX7_notes_36 : decode cX7_notes 36 = .ok (.iload_n 1, 1) := by decide +kernel
theorem dX7_notes_37 : decode cX7_notes 37 = .ok (.iaload, 1) := by decide +kernel
theorem dX7_notes_38 : decode cX7_notes 38 = .ok (.iastore, 1) := by decide +kernel
theorem dX7_notes_39 : decode cX7_notes 39 = .ok (.iinc 1 1, 3) := by decide +kernel
theorem dX7_notes_42 : decode cX7_notes 42 = .ok (.goto (-25), 3) := by decide +kernel
theorem dX7_notes_45 : decode cX7_notes 45 = .ok (.aload_n 0, 1) := by decide +kernel
theorem dX7_notes_46 : decode cX7_notes 46 = .ok (.getfield 7, 3) := by decide +kernel
theorem dX7_notes_49 : decode cX7_notes 49 = .ok (.sipush 147, 3) := by decide +kernel
theorem dX7_notes_52 : decode cX7_notes 52 = .ok (.bipush 7, 2) := by decide +kernel
theorem dX7_notes_54 : decode cX7_notes 54 = .ok (.iastore, 1) := by decide +kernel
theorem dX7_notes_55 : decode cX7_notes 55 = .ok (.sipush 148, 3) := by decide +kernel
theorem dX7_notes_58 : decode cX7_notes 58 = .ok (.bipush 24, 2) := by decide +kernel
theorem dX7_notes_60 : decode cX7_notes 60 = .ok (.aload_n 0, 1) := by decide +kernel
theorem dX7_notes_61 : decode cX7_notes 61 = .ok (.getfield 7, 3) := by decide +kernel
theorem dX7_notes_64 : decode cX7_notes 64 = .ok (.sipush 147, 3) := by decide +kernel
theorem dX7_notes_67 : decode cX7_notes 67 = .ok (.iaload, 1) := by decide +kernel
theorem dX7_notes_68 : decode cX7_notes 68 = .ok (.imul, 1) := by decide +kernel
theorem dX7_notes_69 : decode cX7_notes 69 = .ok (.iadd, 1) := by decide +kernel
theorem dX7_notes_70 : decode cX7_notes 70 = .ok (.istore_n 1, 1) := by decide +kernel
theorem dX7_notes_71 : decode cX7_notes 71 = .ok (.iconst 0, 1) := by decide +kernel
theorem dX7_notes_72 : decode cX7_notes 72 = .ok (.istore_n 2, 1) := by decide +kernel
theorem dX7_notes_73 : decode cX7_notes 73 = .ok (.iload_n 2, 1) := by decide +kernel
theorem dX7_notes_74 : decode cX7_notes 74 = .ok (.iconst 3, 1) := by decide +kernel
theorem dX7_notes_75 : decode cX7_notes 75 = .ok (.if_icmp .ge 25, 3) := by decide +kernel
theorem dX7_notes_78 : decode cX7_notes 78 = .ok (.aload_n 0, 1) := by decide +kernel
theorem dX7_notes_79 : decode cX7_notes 79 = .ok (.getfield 7, 3) := by decide +kernel
theorem dX7_notes_82 : decode cX7_notes 82 = .ok (.iload_n 1, 1) := by decide +kernel
theorem dX7_notes_83 : decode cX7_notes 83 = .ok (.iload_n 2, 1) := by decide +kernel
theorem dX7_notes_84 : decode cX7_notes 84 = .ok (.iadd, 1) := by decide +kernel
theorem dX7_notes_85 : decode cX7_notes 85 = .ok (.aload_n 0, 1) := by decide +kernel
theorem dX7_notes_86 : decode cX7_notes 86 = .ok (.getfield 7, 3) := by decide +kernel
theorem dX7_notes_89 : decode cX7_notes 89 = .ok (.iconst 1, 1) := by decide +kernel
theorem dX7_notes_90 : decode cX7_notes 90 = .ok (.iload_n 2, 1) := by decide +kernel
theorem dX7_notes_91 : decode cX7_notes 91 = .ok (.iadd, 1) := by decide +kernel
theorem dX7_notes_92 : decode cX7_notes 92 = .ok (.iaload, 1) := by decide +kernel
theorem dX7_notes_93 : decode cX7_notes 93 = .ok (.iastore, 1) := by decide +kernel
theorem dX7_notes_94 : decode cX7_notes 94 = .ok (.iinc 2 1, 3) := by decide +kernel
theorem dX7_notes_97 : decode cX7_notes 97 = .ok (.goto (-24), 3) := by decide +kernel
theorem dX7_notes_100 : decode cX7_notes 100 = .ok (.iconst 0, 1) := by decide +kernel
theorem dX7_notes_101 : decode cX7_notes 101 = .ok (.istore_n 2, 1) := by decide +kernel
theorem dX7_notes_102 : decode cX7_notes 102 = .ok (.iload_n 2, 1) := by decide +kernel
theorem dX7_notes_103 : decode cX7_notes 103 = .ok (.bipush 7, 2) := by decide +kernel
theorem dX7_notes_105 : decode cX7_notes 105 = .ok (.if_icmp .ge 44, 3) := by decide +kernel
theorem dX7_notes_108 : decode cX7_notes 108 = .ok (.iconst 0, 1) := by decide +kernel
theorem dX7_notes_109 : decode cX7_notes 109 = .ok (.istore_n 3, 1) := by decide +kernel
theorem dX7_notes_110 : decode cX7_notes 110 = .ok (.iload_n 3, 1) := by decide +kernel
theorem dX7_notes_111 : decode cX7_notes 111 = .ok (.iconst 3, 1) := by decide +kernel
theorem dX7_notes_112 : decode cX7_notes 112 = .ok (.if_icmp .ge 31, 3) := by decide +kernel
theorem dX7_notes_115 : decode cX7_notes 115 = .ok (.aload_n 0, 1) := by decide +kernel
theorem dX7_notes_116 : decode cX7_notes 116 = .ok (.getfield 7, 3) := by decide +kernel
theorem dX7_notes_119 : decode cX7_notes 119 = .ok (.iload_n 1, 1) := by decide +kernel
theorem dX7_notes_120 : decode cX7_notes 120 = .ok (.iconst 3, 1) := by decide +kernel
theorem dX7_notes_121 : decode cX7_notes 121 = .ok (.iadd, 1) := by decide +kernel
theorem dX7_notes_122 : decode cX7_notes 122 = .ok (.iconst 3, 1) := by decide +kernel
theorem dX7_notes_123 : decode cX7_notes 123 = .ok (.iload_n 2, 1) := by decide +kernel
theorem dX7_notes_124 : decode cX7_notes 124 = .ok (.imul, 1) := by decide +kernel
theorem dX7_notes_125 : decode cX7_notes 125 = .ok (.iadd, 1) := by decide +kernel
theorem dX7_notes_126 : decode cX7_notes 126 = .ok (.iload_n 3, 1) := by decide +kernel
theorem dX7_notes_127 : decode cX7_notes 127 = .ok (.iadd, 1) := by decide +kernel
theorem dX7_notes_128 : decode cX7_notes 128 = .ok (.aload_n 0, 1) := by decide +kernel
theorem dX7_notes_129 : decode cX7_notes 129 = .ok (.iload_n 2, 1) := by decide +kernel
theorem dX7_notes_130 : decode cX7_notes 130 = .ok (.iconst 4, 1) := by decide +kernel
theorem dX7_notes_131 : decode cX7_notes 131 = .ok (.iload_n 3, 1) := by decide +kernel
theorem dX7_notes_132 : decode cX7_notes 132 = .ok (.iadd, 1) := by decide +kernel
theorem dX7_notes_133 : decode cX7_notes 133 = .ok (.invokevirtual 56, 3) := by decide +kernel
theorem dX7_notes_136 : decode cX7_notes 136 = .ok (.iastore, 1) := by decide +kernel
theorem dX7_notes_137 : decode cX7_notes 137 = .ok (.iinc 3 1, 3) := by decide +kernel
theorem dX7_notes_140 : decode cX7_notes 140 = .ok (.goto (-30), 3) := by decide +kernel
theorem dX7_notes_143 : decode cX7_notes 143 = .ok (.iinc 2 1, 3) := by decide +kernel
theorem dX7_notes_146 : decode cX7_notes 146 = .ok (.goto (-44), 3) := by decide +kernel
theorem dX7_notes_149 : decode cX7_notes 149 = .ok (.aload_n 0, 1) := by decide +kernel
theorem dX7_notes_150 : decode cX7_notes 150 = .ok (.getfield 7, 3) := by decide +kernel
theorem dX7_notes_153 : decode cX7_notes 153 = .ok (.sipush 147, 3) := by decide +kernel
theorem dX7_notes_156 : decode cX7_notes 156 = .ok (.dup2, 1) := by decide +kernel
theorem dX7_notes_157 : decode cX7_notes 157 = .ok (.iaload, 1) := by decide +kernel
theorem dX7_notes_158 : decode cX7_notes 158 = .ok (.iconst 1, 1) := by decide +kernel
theorem dX7_notes_159 : decode cX7_notes 159 = .ok (.iadd, 1) := by decide +kernel
theorem dX7_notes_160 : decode cX7_notes 160 = .ok (.iastore, 1) := by decide +kernel
theorem dX7_notes_161 : decode cX7_notes 161 = .ok (.return_, 1) := by decide +kernel
theorem dX7_moves_0 : decode cX7_moves 0 = .ok (.iload_n 1, 1) := by decide +kernel
theorem dX7_moves_1 : decode cX7_moves 1 = .ok (.i2l, 1) := by decide +kernel
theorem dX7_moves_2 : decode cX7_moves 2 = .ok (.lconst 0, 1) := by decide +kernel
theorem dX7_moves_3 : decode cX7_moves 3 = .ok (.ldc2_w 182, 3) := by decide +kernel
theorem dX7_moves_6 : decode cX7_moves 6 = .ok (.invokestatic 52, 3) := by decide +kernel
theorem dX7_moves_9 : decode cX7_moves 9 = .ok (.ifCond .ne 8, 3) := by decide +kernel
theorem dX7_moves_12 : decode cX7_moves 12 = .ok (.aload_n 0, 1) := by decide +kernel
theorem dX7_moves_13 : decode cX7_moves 13 = .ok (.invokevirtual 84, 3) := by decide +kernel
theorem dX7_moves_16 : decode cX7_moves 16 = .ok (.ireturn, 1) := by decide +kernel
theorem dX7_moves_17 : decode cX7_moves 17 = .ok (.aload_n 0, 1) := by decide +kernel
theorem dX7_moves_18 : decode cX7_moves 18 = .ok (.getfield 7, 3) := by decide +kernel
theorem dX7_moves_21 : decode cX7_moves 21 = .ok (.iconst 3, 1) := by decide +kernel
theorem dX7_moves_22 : decode cX7_moves 22 = .ok (.iaload, 1) := by decide +kernel
theorem dX7_moves_23 : decode cX7_moves 23 = .ok (.sipush 9999, 3) := by decide +kernel
theorem dX7_moves_26 : decode cX7_moves 26 = .ok (.if_icmp .ne 8, 3) := by decide +kernel
theorem dX7_moves_29 : decode cX7_moves 29 = .ok (.aload_n 0, 1) := by decide +kernel
theorem dX7_moves_30 : decode cX7_moves 30 = .ok (.invokevirtual 202, 3) := by decide +kernel
theorem dX7_moves_33 : decode cX7_moves 33 = .ok (.ireturn, 1) := by decide +kernel
theorem dX7_moves_34 : decode cX7_moves 34 = .ok (.aload_n 0, 1) := by decide +kernel
theorem dX7_moves_35 : decode cX7_moves 35 = .ok (.invokevirtual 205, 3) := by decide +kernel
theorem dX7_moves_38 : decode cX7_moves 38 = .ok (.aload_n 0, 1) := by decide +kernel
theorem dX7_moves_39 : decode cX7_moves 39 = .ok (.iload_n 1, 1) := by decide +kernel
theorem dX7_moves_40 : decode cX7_moves 40 = .ok (.invokevirtual 184, 3) := by decide +kernel
theorem dX7_moves_43 : decode cX7_moves 43 = .ok (.aload_n 0, 1) := by decide +kernel
theorem dX7_moves_44 : decode cX7_moves 44 = .ok (.invokevirtual 208, 3) := by decide +kernel
theorem dX7_moves_47 : decode cX7_moves 47 = .ok (.ireturn, 1) := by decide +kernel
theorem dX7_unsnaps_0 : decode cX7_unsnaps 0 = .ok (.aload_n 0, 1) := by decide +kernel
theorem dX7_unsnaps_1 : decode cX7_unsnaps 1 = .ok (.iload_n 1, 1) := by decide +kernel
theorem dX7_unsnaps_2 : decode cX7_unsnaps 2 = .ok (.iconst 5, 1) := by decide +kernel
theorem dX7_unsnaps_3 : decode cX7_unsnaps 3 = .ok (.iconst 0, 1) := by decide +kernel
theorem dX7_unsnaps_4 : decode cX7_unsnaps 4 = .ok (.invokevirtual 75, 3) := by decide +kernel
theorem dX7_unsnaps_7 : decode cX7_unsnaps 7 = .ok (.aload_n 0, 1) := by decide +kernel
theorem dX7_unsnaps_8 : decode cX7_unsnaps 8 = .ok (.iload_n 1, 1) := by decide +kernel
theorem dX7_unsnaps_9 : decode cX7_unsnaps 9 = .ok (.bipush 6, 2) := by decide +kernel
theorem dX7_unsnaps_11 : decode cX7_unsnaps 11 = .ok (.iconst 0, 1) := by decide +kernel
theorem dX7_unsnaps_12 : decode cX7_unsnaps 12 = .ok (.invokevirtual 75, 3) := by decide +kernel
theorem dX7_unsnaps_15 : decode cX7_unsnaps 15 = .ok (.return_, 1) := by decide +kernel
theorem dX7_ties_0 : decode cX7_ties 0 = .ok (.aload_n 0, 1) := by decide +kernel
theorem dX7_ties_1 : decode cX7_ties 1 = .ok (.iload_n 1, 1) := by decide +kernel
theorem dX7_ties_2 : decode cX7_ties 2 = .ok (.invokevirtual 193, 3) := by decide +kernel
theorem dX7_ties_5 : decode cX7_ties 5 = .ok (.ifCond .ne 8, 3) := by decide +kernel
theorem dX7_ties_8 : decode cX7_ties 8 = .ok (.aload_n 0, 1) := by decide +kernel
theorem dX7_ties_9 : decode cX7_ties 9 = .ok (.invokevirtual 84, 3) := by decide +kernel
theorem dX7_ties_12 : decode cX7_ties 12 = .ok (.ireturn, 1) := by decide +kernel
theorem dX7_ties_13 : decode cX7_ties 13 = .ok (.aload_n 0, 1) := by decide +kernel
theorem dX7_ties_14 : decode cX7_ties 14 = .ok (.iload_n 1, 1) := by decide +kernel
theorem dX7_ties_15 : decode cX7_ties 15 = .ok (.invokevirtual 60, 3) := by decide +kernel
theorem dX7_ties_18 : decode cX7_ties 18 = .ok (.ifCond .ne 8, 3) := by decide +kernel
theorem dX7_ties_21 : decode cX7_ties 21 = .ok (.aload_n 0, 1) := by decide +kernel
theorem dX7_ties_22 : decode cX7_ties 22 = .ok (.invokevirtual 202, 3) := by decide +kernel
theorem dX7_ties_25 : decode cX7_ties 25 = .ok (.ireturn, 1) := by decide +kernel
theorem dX7_ties_26 : decode cX7_ties 26 = .ok (.aload_n 0, 1) := by decide +kernel
theorem dX7_ties_27 : decode cX7_ties 27 = .ok (.invokevirtual 205, 3) := by decide +kernel
theorem dX7_ties_30 : decode cX7_ties 30 = .ok (.aload_n 0, 1) := by decide +kernel
theorem dX7_ties_31 : decode cX7_ties 31 = .ok (.iload_n 1, 1) := by decide +kernel
theorem dX7_ties_32 : decode cX7_ties 32 = .ok (.iconst 5, 1) := by decide +kernel
theorem dX7_ties_33 : decode cX7_ties 33 = .ok (.invokevirtual 56, 3) := by decide +kernel
theorem dX7_ties_36 : decode cX7_ties 36 = .ok (.istore_n 2, 1) := by decide +kernel
theorem dX7_ties_37 : decode cX7_ties 37 = .ok (.aload_n 0, 1) := by decide +kernel
theorem dX7_ties_38 : decode cX7_ties 38 = .ok (.iload_n 1, 1) := by decide +kernel
theorem dX7_ties_39 : decode cX7_ties 39 = .ok (.invokevirtual 196, 3) := by decide +kernel
theorem dX7_ties_42 : decode cX7_ties 42 = .ok (.iload_n 2, 1) := by decide +kernel
theorem dX7_ties_43 : decode cX7_ties 43 = .ok (.ireturn, 1) := by decide +kernel
theorem dX7_hangs_0 : decode cX7_hangs 0 = .ok (.aload_n 0, 1) := by decide +kernel
theorem dX7_hangs_1 : decode cX7_hangs 1 = .ok (.iload_n 1, 1) := by decide +kernel
theorem dX7_hangs_2 : decode cX7_hangs 2 = .ok (.invokevirtual 193, 3) := by decide +kernel
theorem dX7_hangs_5 : decode cX7_hangs 5 = .ok (.ifCond .eq 15, 3) := by decide +kernel
theorem dX7_hangs_8 : decode cX7_hangs 8 = .ok (.iload_n 2, 1) := by decide +kernel
theorem dX7_hangs_9 : decode cX7_hangs 9 = .ok (.i2l, 1) := by decide +kernel
theorem dX7_hangs_10 : decode cX7_hangs 10 = .ok (.lconst 0, 1) := by decide +kernel
theorem dX7_hangs_11 : decode cX7_hangs 11 = .ok (.ldc2_w 94, 3) := by decide +kernel
theorem dX7_hangs_14 : decode cX7_hangs 14 = .ok (.invokestatic 52, 3) := by decide +kernel
theorem dX7_hangs_17 : decode cX7_hangs 17 = .ok (.ifCond .ne 8, 3) := by decide +kernel
theorem dX7_hangs_20 : decode cX7_hangs 20 = .ok (.aload_n 0, 1) := by decide +kernel
theorem dX7_hangs_21 : decode cX7_hangs 21 = .ok (.invokevirtual 84, 3) := by decide +kernel
theorem dX7_hangs_24 : decode cX7_hangs 24 = .ok (.ireturn, 1) := by decide +kernel
theorem dX7_hangs_25 : decode cX7_hangs 25 = .ok (.aload_n 0, 1) := by decide +kernel
theorem dX7_hangs_26 : decode cX7_hangs 26 = .ok (.iload_n 1, 1) := by decide +kernel
theorem dX7_hangs_27 : decode cX7_hangs 27 = .ok (.iconst 4, 1) := by decide +kernel
theorem dX7_hangs_28 : decode cX7_hangs 28 = .ok (.invokevirtual 56, 3) := by decide +kernel
theorem dX7_hangs_31 : decode cX7_hangs 31 = .ok (.istore_n 3, 1) := by decide +kernel
theorem dX7_hangs_32 : decode cX7_hangs 32 = .ok (.iload_n 3, 1) := by decide +kernel
theorem dX7_hangs_33 : decode cX7_hangs 33 = .ok (.iload_n 2, 1) := by decide +kernel
theorem dX7_hangs_34 : decode cX7_hangs 34 = .ok (.if_icmp .ne 8, 3) := by decide +kernel
theorem dX7_hangs_37 : decode cX7_hangs 37 = .ok (.aload_n 0, 1) := by decide +kernel
theorem dX7_hangs_38 : decode cX7_hangs 38 = .ok (.invokevirtual 202, 3) := by decide +kernel
theorem dX7_hangs_41 : decode cX7_hangs 41 = .ok (.ireturn, 1) := by decide +kernel
theorem dX7_hangs_42 : decode cX7_hangs 42 = .ok (.aload_n 0, 1) := by decide +kernel
theorem dX7_hangs_43 : decode cX7_hangs 43 = .ok (.invokevirtual 205, 3) := by decide +kernel
theorem dX7_hangs_46 : decode cX7_hangs 46 = .ok (.aload_n 0, 1) := by decide +kernel
theorem dX7_hangs_47 : decode cX7_hangs 47 = .ok (.iload_n 1, 1) := by decide +kernel
theorem dX7_hangs_48 : decode cX7_hangs 48 = .ok (.iconst 4, 1) := by decide +kernel
theorem dX7_hangs_49 : decode cX7_hangs 49 = .ok (.iload_n 2, 1) := by decide +kernel
theorem dX7_hangs_50 : decode cX7_hangs 50 = .ok (.invokevirtual 75, 3) := by decide +kernel
theorem dX7_hangs_53 : decode cX7_hangs 53 = .ok (.iload_n 3, 1) := by decide +kernel
theorem dX7_hangs_54 : decode cX7_hangs 54 = .ok (.ireturn, 1) := by decide +kernel
theorem dX7_undo_0 : decode cX7_undo 0 = .ok (.aload_n 0, 1) := by decide +kernel
theorem dX7_undo_1 : decode cX7_undo 1 = .ok (.getfield 7, 3) := by decide +kernel
theorem dX7_undo_4 : decode cX7_undo 4 = .ok (.sipush 147, 3) := by decide +kernel
theorem dX7_undo_7 : decode cX7_undo 7 = .ok (.iaload, 1) := by decide +kernel
theorem dX7_undo_8 : decode cX7_undo 8 = .ok (.ifCond .ne 8, 3) := by decide +kernel
theorem dX7_undo_11 : decode cX7_undo 11 = .ok (.aload_n 0, 1) := by decide +kernel
theorem dX7_undo_12 : decode cX7_undo 12 = .ok (.invokevirtual 202, 3) := by decide +kernel
theorem dX7_undo_15 : decode cX7_undo 15 = .ok (.ireturn, 1) := by decide +kernel
theorem dX7_undo_16 : decode cX7_undo 16 = .ok (.aload_n 0, 1) := by decide +kernel
theorem dX7_undo_17 : decode cX7_undo 17 = .ok (.getfield 7, 3) := by decide +kernel
theorem dX7_undo_20 : decode cX7_undo 20 = .ok (.sipush 147, 3) := by decide +kernel
theorem dX7_undo_23 : decode cX7_undo 23 = .ok (.dup2, 1) := by decide +kernel
theorem dX7_undo_24 : decode cX7_undo 24 = .ok (.iaload, 1) := by decide +kernel
theorem dX7_undo_25 : decode cX7_undo 25 = .ok (.iconst 1, 1) := by decide +kernel
theorem dX7_undo_26 : decode cX7_undo 26 = .ok (.isub, 1) := by decide +kernel
theorem dX7_undo_27 : decode cX7_undo 27 = .ok (.iastore, 1) := by decide +kernel
theorem dX7_undo_28 : decode cX7_undo 28 = .ok (.sipush 148, 3) := by decide +kernel
theorem dX7_undo_31 : decode cX7_undo 31 = .ok (.bipush 24, 2) := by decide +kernel
theorem dX7_undo_33 : decode cX7_undo 33 = .ok (.aload_n 0, 1) := by decide +kernel
theorem dX7_undo_34 : decode cX7_undo 34 = .ok (.getfield 7, 3) := by decide +kernel
theorem dX7_undo_37 : decode cX7_undo 37 = .ok (.sipush 147, 3) := by decide +kernel
theorem dX7_undo_40 : decode cX7_undo 40 = .ok (.iaload, 1) := by decide +kernel
theorem dX7_undo_41 : decode cX7_undo 41 = .ok (.imul, 1) := by decide +kernel
theorem dX7_undo_42 : decode cX7_undo 42 = .ok (.iadd, 1) := by decide +kernel
theorem dX7_undo_43 : decode cX7_undo 43 = .ok (.istore_n 1, 1) := by decide +kernel
theorem dX7_undo_44 : decode cX7_undo 44 = .ok (.iconst 0, 1) := by decide +kernel
theorem dX7_undo_45 : decode cX7_undo 45 = .ok (.istore_n 2, 1) := by decide +kernel
theorem dX7_undo_46 : decode cX7_undo 46 = .ok (.iload_n 2, 1) := by decide +kernel
theorem dX7_undo_47 : decode cX7_undo 47 = .ok (.iconst 3, 1) := by decide +kernel
theorem dX7_undo_48 : decode cX7_undo 48 = .ok (.if_icmp .ge 25, 3) := by decide +kernel
theorem dX7_undo_51 : decode cX7_undo 51 = .ok (.aload_n 0, 1) := by decide +kernel
theorem dX7_undo_52 : decode cX7_undo 52 = .ok (.getfield 7, 3) := by decide +kernel
theorem dX7_undo_55 : decode cX7_undo 55 = .ok (.iconst 1, 1) := by decide +kernel
theorem dX7_undo_56 : decode cX7_undo 56 = .ok (.iload_n 2, 1) := by decide +kernel
theorem dX7_undo_57 : decode cX7_undo 57 = .ok (.iadd, 1) := by decide +kernel
theorem dX7_undo_58 : decode cX7_undo 58 = .ok (.aload_n 0, 1) := by decide +kernel
theorem dX7_undo_59 : decode cX7_undo 59 = .ok (.getfield 7, 3) := by decide +kernel
theorem dX7_undo_62 : decode cX7_undo 62 = .ok (.iload_n 1, 1) := by decide +kernel
theorem dX7_undo_63 : decode cX7_undo 63 = .ok (.iload_n 2, 1) := by decide +kernel
theorem dX7_undo_64 : decode cX7_undo 64 = .ok (.iadd, 1) := by decide +kernel
theorem dX7_undo_65 : decode cX7_undo 65 = .ok (.iaload, 1) := by decide +kernel
theorem dX7_undo_66 : decode cX7_undo 66 = .ok (.iastore, 1) := by decide +kernel
theorem dX7_undo_67 : decode cX7_undo 67 = .ok (.iinc 2 1, 3) := by decide +kernel
theorem dX7_undo_70 : decode cX7_undo 70 = .ok (.goto (-24), 3) := by decide +kernel
theorem dX7_undo_73 : decode cX7_undo 73 = .ok (.iconst 0, 1) := by decide +kernel
theorem dX7_undo_74 : decode cX7_undo 74 = .ok (.istore_n 2, 1) := by decide +kernel
theorem dX7_undo_75 : decode cX7_undo 75 = .ok (.iload_n 2, 1) := by decide +kernel
theorem dX7_undo_76 : decode cX7_undo 76 = .ok (.bipush 7, 2) := by decide +kernel
theorem dX7_undo_78 : decode cX7_undo 78 = .ok (.if_icmp .ge 44, 3) := by decide +kernel
theorem dX7_undo_81 : decode cX7_undo 81 = .ok (.iconst 0, 1) := by decide +kernel
theorem dX7_undo_82 : decode cX7_undo 82 = .ok (.istore_n 3, 1) := by decide +kernel
theorem dX7_undo_83 : decode cX7_undo 83 = .ok (.iload_n 3, 1) := by decide +kernel
theorem dX7_undo_84 : decode cX7_undo 84 = .ok (.iconst 3, 1) := by decide +kernel
theorem dX7_undo_85 : decode cX7_undo 85 = .ok (.if_icmp .ge 31, 3) := by decide +kernel
theorem dX7_undo_88 : decode cX7_undo 88 = .ok (.aload_n 0, 1) := by decide +kernel
theorem dX7_undo_89 : decode cX7_undo 89 = .ok (.iload_n 2, 1) := by decide +kernel
theorem dX7_undo_90 : decode cX7_undo 90 = .ok (.iconst 4, 1) := by decide +kernel
theorem dX7_undo_91 : decode cX7_undo 91 = .ok (.iload_n 3, 1) := by decide +kernel
theorem dX7_undo_92 : decode cX7_undo 92 = .ok (.iadd, 1) := by decide +kernel
theorem dX7_undo_93 : decode cX7_undo 93 = .ok (.aload_n 0, 1) := by decide +kernel
theorem dX7_undo_94 : decode cX7_undo 94 = .ok (.getfield 7, 3) := by decide +kernel
theorem dX7_undo_97 : decode cX7_undo 97 = .ok (.iload_n 1, 1) := by decide +kernel
theorem dX7_undo_98 : decode cX7_undo 98 = .ok (.iconst 3, 1) := by decide +kernel
theorem dX7_undo_99 : decode cX7_undo 99 = .ok (.iadd, 1) := by decide +kernel
theorem dX7_undo_100 : decode cX7_undo 100 = .ok (.iconst 3, 1) := by decide +kernel
theorem dX7_undo_101 : decode cX7_undo 101 = .ok (.iload_n 2, 1) := by decide +kernel
theorem dX7_undo_102 : decode cX7_undo 102 = .ok (.imul, 1) := by decide +kernel
theorem dX7_undo_103 : decode cX7_undo 103 = .ok (.iadd, 1) := by decide +kernel
theorem dX7_undo_104 : decode cX7_undo 104 = .ok (.iload_n 3, 1) := by decide +kernel
theorem dX7_undo_105 : decode cX7_undo 105 = .ok (.iadd, 1) := by decide +kernel
theorem dX7_undo_106 : decode cX7_undo 106 = .ok (.iaload, 1) := by decide +kernel
theorem dX7_undo_107 : decode cX7_undo 107 = .ok (.invokevirtual 75, 3) := by decide +kernel
theorem dX7_undo_110 : decode cX7_undo 110 = .ok (.iinc 3 1, 3) := by decide +kernel
theorem dX7_undo_113 : decode cX7_undo 113 = .ok (.goto (-30), 3) := by decide +kernel
theorem dX7_undo_116 : decode cX7_undo 116 = .ok (.iinc 2 1, 3) := by decide +kernel
theorem dX7_undo_119 : decode cX7_undo 119 = .ok (.goto (-44), 3) := by decide +kernel
theorem dX7_undo_122 : decode cX7_undo 122 = .ok (.aload_n 0, 1) := by decide +kernel
theorem dX7_undo_123 : decode cX7_undo 123 = .ok (.getfield 7, 3) := by decide +kernel
theorem dX7_undo_126 : decode cX7_undo 126 = .ok (.iconst 3, 1) := by decide +kernel
theorem dX7_undo_127 : decode cX7_undo 127 = .ok (.iaload, 1) := by decide +kernel
theorem dX7_undo_128 : decode cX7_undo 128 = .ok (.ireturn, 1) := by decide +kernel
theorem dX7_of_0 : decode cX7_of 0 = .ok (.aload_n 0, 1) := by decide +kernel
theorem dX7_of_1 : decode cX7_of 1 = .ok (.iload_n 1, 1) := by decide +kernel
theorem dX7_of_2 : decode cX7_of 2 = .ok (.invokevirtual 193, 3) := by decide +kernel
theorem dX7_of_5 : decode cX7_of 5 = .ok (.ifCond .eq 15, 3) := by decide +kernel
theorem dX7_of_8 : decode cX7_of 8 = .ok (.iload_n 2, 1) := by decide +kernel
theorem dX7_of_9 : decode cX7_of 9 = .ok (.i2l, 1) := by decide +kernel
theorem dX7_of_10 : decode cX7_of 10 = .ok (.lconst 0, 1) := by decide +kernel
theorem dX7_of_11 : decode cX7_of 11 = .ok (.ldc2_w 211, 3) := by decide +kernel
theorem dX7_of_14 : decode cX7_of 14 = .ok (.invokestatic 52, 3) := by decide +kernel
theorem dX7_of_17 : decode cX7_of 17 = .ok (.ifCond .ne 8, 3) := by decide +kernel
theorem dX7_of_20 : decode cX7_of 20 = .ok (.aload_n 0, 1) := by decide +kernel
theorem dX7_of_21 : decode cX7_of 21 = .ok (.invokevirtual 84, 3) := by decide +kernel
theorem dX7_of_24 : decode cX7_of 24 = .ok (.ireturn, 1) := by decide +kernel
theorem dX7_of_25 : decode cX7_of 25 = .ok (.iload_n 2, 1) := by decide +kernel
theorem dX7_of_26 : decode cX7_of 26 = .ok (.bipush 7, 2) := by decide +kernel
theorem dX7_of_28 : decode cX7_of 28 = .ok (.if_icmp .ge 12, 3) := by decide +kernel
theorem dX7_of_31 : decode cX7_of 31 = .ok (.aload_n 0, 1) := by decide +kernel
theorem dX7_of_32 : decode cX7_of 32 = .ok (.iload_n 1, 1) := by decide +kernel
theorem dX7_of_33 : decode cX7_of 33 = .ok (.iload_n 2, 1) := by decide +kernel
theorem dX7_of_34 : decode cX7_of 34 = .ok (.invokevirtual 56, 3) := by decide +kernel
theorem dX7_of_37 : decode cX7_of 37 = .ok (.goto 8, 3) := by decide +kernel
theorem dX7_of_40 : decode cX7_of 40 = .ok (.aload_n 0, 1) := by decide +kernel
theorem dX7_of_41 : decode cX7_of 41 = .ok (.iload_n 1, 1) := by decide +kernel
theorem dX7_of_42 : decode cX7_of 42 = .ok (.invokevirtual 213, 3) := by decide +kernel
theorem dX7_of_45 : decode cX7_of 45 = .ok (.ireturn, 1) := by decide +kernel
theorem dX7_asides_0 : decode cX7_asides 0 = .ok (.iconst 0, 1) := by decide +kernel
theorem dX7_asides_1 : decode cX7_asides 1 = .ok (.istore_n 1, 1) := by decide +kernel
theorem dX7_asides_2 : decode cX7_asides 2 = .ok (.iload_n 1, 1) := by decide +kernel
theorem dX7_asides_3 : decode cX7_asides 3 = .ok (.bipush 53, 2) := by decide +kernel
theorem dX7_asides_5 : decode cX7_asides 5 = .ok (.if_icmp .ge 21, 3) := by decide +kernel
theorem dX7_asides_8 : decode cX7_asides 8 = .ok (.aload_n 0, 1) := by decide +kernel
theorem dX7_asides_9 : decode cX7_asides 9 = .ok (.getfield 23, 3) := by decide +kernel
theorem dX7_asides_12 : decode cX7_asides 12 = .ok (.iload_n 1, 1) := by decide +kernel
theorem dX7_asides_13 : decode cX7_asides 13 = .ok (.aload_n 0, 1) := by decide +kernel
theorem dX7_asides_14 : decode cX7_asides 14 = .ok (.getfield 7, 3) := by decide +kernel
theorem dX7_asides_17 : decode cX7_asides 17 = .ok (.iload_n 1, 1) := by decide +kernel
theorem dX7_asides_18 : decode cX7_asides 18 = .ok (.iaload, 1) := by decide +kernel
theorem dX7_asides_19 : decode cX7_asides 19 = .ok (.iastore, 1) := by decide +kernel
theorem dX7_asides_20 : decode cX7_asides 20 = .ok (.iinc 1 1, 3) := by decide +kernel
theorem dX7_asides_23 : decode cX7_asides 23 = .ok (.goto (-21), 3) := by decide +kernel
theorem dX7_asides_26 : decode cX7_asides 26 = .ok (.return_, 1) := by decide +kernel
theorem dX7_backs_0 : decode cX7_backs 0 = .ok (.iconst 0, 1) := by decide +kernel
theorem dX7_backs_1 : decode cX7_backs 1 = .ok (.istore_n 1, 1) := by decide +kernel
theorem dX7_backs_2 : decode cX7_backs 2 = .ok (.iload_n 1, 1) := by decide +kernel
theorem dX7_backs_3 : decode cX7_backs 3 = .ok (.bipush 53, 2) := by decide +kernel
theorem dX7_backs_5 : decode cX7_backs 5 = .ok (.if_icmp .ge 21, 3) := by decide +kernel
theorem dX7_backs_8 : decode cX7_backs 8 = .ok (.aload_n 0, 1) := by decide +kernel
theorem dX7_backs_9 : decode cX7_backs 9 = .ok (.getfield 7, 3) := by decide +kernel
theorem dX7_backs_12 : decode cX7_backs 12 = .ok (.iload_n 1, 1) := by decide +kernel
theorem dX7_backs_13 : decode cX7_backs 13 = .ok (.aload_n 0, 1) := by decide +kernel
theorem dX7_backs_14 : decode cX7_backs 14 = .ok (.getfield 23, 3) := by decide +kernel
theorem dX7_backs_17 : decode cX7_backs 17 = .ok (.iload_n 1, 1) := by decide +kernel
theorem dX7_backs_18 : decode cX7_backs 18 = .ok (.iaload, 1) := by decide +kernel
theorem dX7_backs_19 : decode cX7_backs 19 = .ok (.iastore, 1) := by decide +kernel
theorem dX7_backs_20 : decode cX7_backs 20 = .ok (.iinc 1 1, 3) := by decide +kernel
theorem dX7_backs_23 : decode cX7_backs 23 = .ok (.goto (-21), 3) := by decide +kernel
theorem dX7_backs_26 : decode cX7_backs 26 = .ok (.return_, 1) := by decide +kernel
theorem dX7_found_0 : decode cX7_found 0 = .ok (.iload_n 2, 1) := by decide +kernel
theorem dX7_found_1 : decode cX7_found 1 = .ok (.ifCond .ge 7, 3) := by decide +kernel
theorem dX7_found_4 : decode cX7_found 4 = .ok (.iload_n 1, 1) := by decide +kernel
theorem dX7_found_5 : decode cX7_found 5 = .ok (.goto 14, 3) := by decide +kernel
theorem dX7_found_8 : decode cX7_found 8 = .ok (.iload_n 1, 1) := by decide +kernel
theorem dX7_found_9 : decode cX7_found 9 = .ok (.iload_n 2, 1) := by decide +kernel
theorem dX7_found_10 : decode cX7_found 10 = .ok (.if_icmp .le 7, 3) := by decide +kernel
theorem dX7_found_13 : decode cX7_found 13 = .ok (.iload_n 3, 1) := by decide +kernel
theorem dX7_found_14 : decode cX7_found 14 = .ok (.goto 5, 3) := by decide +kernel
theorem dX7_found_17 : decode cX7_found 17 = .ok (.bipush (-5), 2) := by decide +kernel
theorem dX7_found_19 : decode cX7_found 19 = .ok (.ireturn, 1) := by decide +kernel
theorem dX7_touch_0 : decode cX7_touch 0 = .ok (.iload_n 1, 1) := by decide +kernel
theorem dX7_touch_1 : decode cX7_touch 1 = .ok (.iconst (-1), 1) := by decide +kernel
theorem dX7_touch_2 : decode cX7_touch 2 = .ok (.if_icmp .ge 8, 3) := by decide +kernel
theorem dX7_touch_5 : decode cX7_touch 5 = .ok (.aload_n 0, 1) := by decide +kernel
theorem dX7_touch_6 : decode cX7_touch 6 = .ok (.invokevirtual 216, 3) := by decide +kernel
theorem dX7_touch_9 : decode cX7_touch 9 = .ok (.ireturn, 1) := by decide +kernel
theorem dX7_touch_10 : decode cX7_touch 10 = .ok (.iconst 0, 1) := by decide +kernel
theorem dX7_touch_11 : decode cX7_touch 11 = .ok (.istore_n 2, 1) := by decide +kernel
theorem dX7_touch_12 : decode cX7_touch 12 = .ok (.iconst 0, 1) := by decide +kernel
theorem dX7_touch_13 : decode cX7_touch 13 = .ok (.istore_n 3, 1) := by decide +kernel
theorem dX7_touch_14 : decode cX7_touch 14 = .ok (.iconst 0, 1) := by decide +kernel
theorem dX7_touch_15 : decode cX7_touch 15 = .ok (.istore 4, 2) := by decide +kernel
theorem dX7_touch_17 : decode cX7_touch 17 = .ok (.iload 4, 2) := by decide +kernel
theorem dX7_touch_19 : decode cX7_touch 19 = .ok (.aload_n 0, 1) := by decide +kernel
theorem dX7_touch_20 : decode cX7_touch 20 = .ok (.getfield 7, 3) := by decide +kernel
theorem dX7_touch_23 : decode cX7_touch 23 = .ok (.iconst 0, 1) := by decide +kernel
theorem dX7_touch_24 : decode cX7_touch 24 = .ok (.iaload, 1) := by decide +kernel
theorem dX7_touch_25 : decode cX7_touch 25 = .ok (.if_icmp .ge 86, 3) := by decide +kernel
theorem dX7_touch_28 : decode cX7_touch 28 = .ok (.iload 4, 2) := by decide +kernel
theorem dX7_touch_30 : decode cX7_touch 30 = .ok (.iconst 1, 1) := by decide +kernel
theorem dX7_touch_31 : decode cX7_touch 31 = .ok (.iadd, 1) := by decide +kernel
theorem dX7_touch_32 : decode cX7_touch 32 = .ok (.istore 5, 2) := by decide +kernel
theorem dX7_touch_34 : decode cX7_touch 34 = .ok (.iload 5, 2) := by decide +kernel
theorem dX7_touch_36 : decode cX7_touch 36 = .ok (.aload_n 0, 1) := by decide +kernel
theorem dX7_touch_37 : decode cX7_touch 37 = .ok (.getfield 7, 3) := by decide +kernel
theorem dX7_touch_40 : decode cX7_touch 40 = .ok (.iconst 0, 1) := by decide +kernel
theorem dX7_touch_41 : decode cX7_touch 41 = .ok (.iaload, 1) := by decide +kernel
theorem dX7_touch_42 : decode cX7_touch 42 = .ok (.if_icmp .ge 63, 3) := by decide +kernel
theorem dX7_touch_45 : decode cX7_touch 45 = .ok (.aload_n 0, 1) := by decide +kernel
theorem dX7_touch_46 : decode cX7_touch 46 = .ok (.iload 4, 2) := by decide +kernel
theorem dX7_touch_48 : decode cX7_touch 48 = .ok (.invokevirtual 60, 3) := by decide +kernel
theorem dX7_touch_51 : decode cX7_touch 51 = .ok (.ifCond .ne 48, 3) := by decide +kernel
theorem dX7_touch_54 : decode cX7_touch 54 = .ok (.aload_n 0, 1) := by decide +kernel
theorem dX7_touch_55 : decode cX7_touch 55 = .ok (.iload 5, 2) := by decide +kernel
theorem dX7_touch_57 : decode cX7_touch 57 = .ok (.invokevirtual 60, 3) := by decide +kernel
theorem dX7_touch_60 : decode cX7_touch 60 = .ok (.ifCond .ne 39, 3) := by decide +kernel
theorem dX7_touch_63 : decode cX7_touch 63 = .ok (.aload_n 0, 1) := by decide +kernel
theorem dX7_touch_64 : decode cX7_touch 64 = .ok (.iload 4, 2) := by decide +kernel
theorem dX7_touch_66 : decode cX7_touch 66 = .ok (.invokevirtual 213, 3) := by decide +kernel
theorem dX7_touch_69 : decode cX7_touch 69 = .ok (.aload_n 0, 1) := by decide +kernel
theorem dX7_touch_70 : decode cX7_touch 70 = .ok (.iload 5, 2) := by decide +kernel
theorem dX7_touch_72 : decode cX7_touch 72 = .ok (.invokevirtual 213, 3) := by decide +kernel
theorem dX7_touch_75 : decode cX7_touch 75 = .ok (.if_icmp .ne 24, 3) := by decide +kernel
theorem dX7_touch_78 : decode cX7_touch 78 = .ok (.iload_n 2, 1) := by decide +kernel
theorem dX7_touch_79 : decode cX7_touch 79 = .ok (.iload_n 1, 1) := by decide +kernel
theorem dX7_touch_80 : decode cX7_touch 80 = .ok (.if_icmp .ne 14, 3) := by decide +kernel
theorem dX7_touch_83 : decode cX7_touch 83 = .ok (.bipush 10, 2) := by decide +kernel
theorem dX7_touch_85 : decode cX7_touch 85 = .ok (.iload 4, 2) := by decide +kernel
theorem dX7_touch_87 : decode cX7_touch 87 = .ok (.imul, 1) := by decide +kernel
theorem dX7_touch_88 : decode cX7_touch 88 = .ok (.iload 5, 2) := by decide +kernel
theorem dX7_touch_90 : decode cX7_touch 90 = .ok (.iadd, 1) := by decide +kernel
theorem dX7_touch_91 : decode cX7_touch 91 = .ok (.goto 4, 3) := by decide +kernel
theorem dX7_touch_94 : decode cX7_touch 94 = .ok (.iload_n 3, 1) := by decide +kernel
theorem dX7_touch_95 : decode cX7_touch 95 = .ok (.istore_n 3, 1) := by decide +kernel
theorem dX7_touch_96 : decode cX7_touch 96 = .ok (.iinc 2 1, 3) := by decide +kernel
theorem dX7_touch_99 : decode cX7_touch 99 = .ok (.iinc 5 1, 3) := by decide +kernel
theorem dX7_touch_102 : decode cX7_touch 102 = .ok (.goto (-68), 3) := by decide +kernel
theorem dX7_touch_105 : decode cX7_touch 105 = .ok (.iinc 4 1, 3) := by decide +kernel
theorem dX7_touch_108 : decode cX7_touch 108 = .ok (.goto (-91), 3) := by decide +kernel
theorem dX7_touch_111 : decode cX7_touch 111 = .ok (.aload_n 0, 1) := by decide +kernel
theorem dX7_touch_112 : decode cX7_touch 112 = .ok (.iload_n 2, 1) := by decide +kernel
theorem dX7_touch_113 : decode cX7_touch 113 = .ok (.iload_n 1, 1) := by decide +kernel
theorem dX7_touch_114 : decode cX7_touch 114 = .ok (.iload_n 3, 1) := by decide +kernel
theorem dX7_touch_115 : decode cX7_touch 115 = .ok (.invokevirtual 219, 3) := by decide +kernel
theorem dX7_touch_118 : decode cX7_touch 118 = .ok (.ireturn, 1) := by decide +kernel
theorem dX7_safe_0 : decode cX7_safe 0 = .ok (.aload_n 0, 1) := by decide +kernel
theorem dX7_safe_1 : decode cX7_safe 1 = .ok (.iload_n 1, 1) := by decide +kernel
theorem dX7_safe_2 : decode cX7_safe 2 = .ok (.invokevirtual 193, 3) := by decide +kernel
theorem dX7_safe_5 : decode cX7_safe 5 = .ok (.ifCond .ne 8, 3) := by decide +kernel
theorem dX7_safe_8 : decode cX7_safe 8 = .ok (.aload_n 0, 1) := by decide +kernel
theorem dX7_safe_9 : decode cX7_safe 9 = .ok (.invokevirtual 84, 3) := by decide +kernel
theorem dX7_safe_12 : decode cX7_safe 12 = .ok (.ireturn, 1) := by decide +kernel
theorem dX7_safe_13 : decode cX7_safe 13 = .ok (.aload_n 0, 1) := by decide +kernel
theorem dX7_safe_14 : decode cX7_safe 14 = .ok (.invokevirtual 222, 3) := by decide +kernel
theorem dX7_safe_17 : decode cX7_safe 17 = .ok (.iconst 0, 1) := by decide +kernel
theorem dX7_safe_18 : decode cX7_safe 18 = .ok (.istore_n 2, 1) := by decide +kernel
theorem dX7_safe_19 : decode cX7_safe 19 = .ok (.iload_n 2, 1) := by decide +kernel
theorem dX7_safe_20 : decode cX7_safe 20 = .ok (.bipush 61, 2) := by decide +kernel
theorem dX7_safe_22 : decode cX7_safe 22 = .ok (.if_icmp .ge 22, 3) := by decide +kernel
theorem dX7_safe_25 : decode cX7_safe 25 = .ok (.aload_n 0, 1) := by decide +kernel
theorem dX7_safe_26 : decode cX7_safe 26 = .ok (.iload_n 1, 1) := by decide +kernel
theorem dX7_safe_27 : decode cX7_safe 27 = .ok (.invokevirtual 60, 3) := by decide +kernel
theorem dX7_safe_30 : decode cX7_safe 30 = .ok (.ifCond .ne 14, 3) := by decide +kernel
theorem dX7_safe_33 : decode cX7_safe 33 = .ok (.aload_n 0, 1) := by decide +kernel
theorem dX7_safe_34 : decode cX7_safe 34 = .ok (.iconst 4, 1) := by decide +kernel
theorem dX7_safe_35 : decode cX7_safe 35 = .ok (.invokevirtual 184, 3) := by decide +kernel
theorem dX7_safe_38 : decode cX7_safe 38 = .ok (.iinc 2 1, 3) := by decide +kernel
theorem dX7_safe_41 : decode cX7_safe 41 = .ok (.goto (-22), 3) := by decide +kernel
theorem dX7_safe_44 : decode cX7_safe 44 = .ok (.aload_n 0, 1) := by decide +kernel
theorem dX7_safe_45 : decode cX7_safe 45 = .ok (.invokevirtual 225, 3) := by decide +kernel
theorem dX7_safe_48 : decode cX7_safe 48 = .ok (.iload_n 2, 1) := by decide +kernel
theorem dX7_safe_49 : decode cX7_safe 49 = .ok (.bipush 61, 2) := by decide +kernel
theorem dX7_safe_51 : decode cX7_safe 51 = .ok (.if_icmp .ge 7, 3) := by decide +kernel
theorem dX7_safe_54 : decode cX7_safe 54 = .ok (.iload_n 2, 1) := by decide +kernel
theorem dX7_safe_55 : decode cX7_safe 55 = .ok (.goto 6, 3) := by decide +kernel
theorem dX7_safe_58 : decode cX7_safe 58 = .ok (.sipush (-1001), 3) := by decide +kernel
theorem dX7_safe_61 : decode cX7_safe 61 = .ok (.ireturn, 1) := by decide +kernel
theorem dX7_goesBy_0 : decode cX7_goesBy 0 = .ok (.iconst 1, 1) := by decide +kernel
theorem dX7_goesBy_1 : decode cX7_goesBy 1 = .ok (.istore_n 3, 1) := by decide +kernel
theorem dX7_goesBy_2 : decode cX7_goesBy 2 = .ok (.iconst 1, 1) := by decide +kernel
theorem dX7_goesBy_3 : decode cX7_goesBy 3 = .ok (.istore 4, 2) := by decide +kernel
theorem dX7_goesBy_5 : decode cX7_goesBy 5 = .ok (.iload 4, 2) := by decide +kernel
theorem dX7_goesBy_7 : decode cX7_goesBy 7 = .ok (.iload_n 2, 1) := by decide +kernel
theorem dX7_goesBy_8 : decode cX7_goesBy 8 = .ok (.if_icmp .ge 13, 3) := by decide +kernel
theorem dX7_goesBy_11 : decode cX7_goesBy 11 = .ok (.iload_n 3, 1) := by decide +kernel
theorem dX7_goesBy_12 : decode cX7_goesBy 12 = .ok (.iconst 5, 1) := by decide +kernel
theorem dX7_goesBy_13 : decode cX7_goesBy 13 = .ok (.imul, 1) := by decide +kernel
theorem dX7_goesBy_14 : decode cX7_goesBy 14 = .ok (.istore_n 3, 1) := by decide +kernel
theorem dX7_goesBy_15 : decode cX7_goesBy 15 = .ok (.iinc 4 1, 3) := by decide +kernel
theorem dX7_goesBy_18 : decode cX7_goesBy 18 = .ok (.goto (-13), 3) := by decide +kernel
theorem dX7_goesBy_21 : decode cX7_goesBy 21 = .ok (.iconst 0, 1) := by decide +kernel
theorem dX7_goesBy_22 : decode cX7_goesBy 22 = .ok (.istore 4, 2) := by decide +kernel
theorem dX7_goesBy_24 : decode cX7_goesBy 24 = .ok (.iload 4, 2) := by decide +kernel
theorem dX7_goesBy_26 : decode cX7_goesBy 26 = .ok (.iload_n 2, 1) := by decide +kernel
theorem dX7_goesBy_27 : decode cX7_goesBy 27 = .ok (.if_icmp .ge 22, 3) := by decide +kernel
theorem dX7_goesBy_30 : decode cX7_goesBy 30 = .ok (.aload_n 0, 1) := by decide +kernel
theorem dX7_goesBy_31 : decode cX7_goesBy 31 = .ok (.iload_n 1, 1) := by decide +kernel
theorem dX7_goesBy_32 : decode cX7_goesBy 32 = .ok (.iload_n 3, 1) := by decide +kernel
theorem dX7_goesBy_33 : decode cX7_goesBy 33 = .ok (.idiv, 1) := by decide +kernel
theorem dX7_goesBy_34 : decode cX7_goesBy 34 = .ok (.iconst 5, 1) := by decide +kernel
theorem dX7_goesBy_35 : decode cX7_goesBy 35 = .ok (.irem, 1) := by decide +kernel
theorem dX7_goesBy_36 : decode cX7_goesBy 36 = .ok (.invokevirtual 184, 3) := by decide +kernel
theorem dX7_goesBy_39 : decode cX7_goesBy 39 = .ok (.iload_n 3, 1) := by decide +kernel
theorem dX7_goesBy_40 : decode cX7_goesBy 40 = .ok (.iconst 5, 1) := by decide +kernel
theorem dX7_goesBy_41 : decode cX7_goesBy 41 = .ok (.idiv, 1) := by decide +kernel
theorem dX7_goesBy_42 : decode cX7_goesBy 42 = .ok (.istore_n 3, 1) := by decide +kernel
theorem dX7_goesBy_43 : decode cX7_goesBy 43 = .ok (.iinc 4 1, 3) := by decide +kernel
theorem dX7_goesBy_46 : decode cX7_goesBy 46 = .ok (.goto (-22), 3) := by decide +kernel
theorem dX7_goesBy_49 : decode cX7_goesBy 49 = .ok (.return_, 1) := by decide +kernel
theorem dX7_fewest_0 : decode cX7_fewest 0 = .ok (.iconst 1, 1) := by decide +kernel
theorem dX7_fewest_1 : decode cX7_fewest 1 = .ok (.istore 5, 2) := by decide +kernel
theorem dX7_fewest_3 : decode cX7_fewest 3 = .ok (.aload_n 0, 1) := by decide +kernel
theorem dX7_fewest_4 : decode cX7_fewest 4 = .ok (.invokevirtual 222, 3) := by decide +kernel
theorem dX7_fewest_7 : decode cX7_fewest 7 = .ok (.iconst 0, 1) := by decide +kernel
theorem dX7_fewest_8 : decode cX7_fewest 8 = .ok (.istore 6, 2) := by decide +kernel
theorem dX7_fewest_10 : decode cX7_fewest 10 = .ok (.iload 6, 2) := by decide +kernel
theorem dX7_fewest_12 : decode cX7_fewest 12 = .ok (.bipush 6, 2) := by decide +kernel
theorem dX7_fewest_14 : decode cX7_fewest 14 = .ok (.if_icmp .ge 83, 3) := by decide +kernel
theorem dX7_fewest_17 : decode cX7_fewest 17 = .ok (.iconst 0, 1) := by decide +kernel
theorem dX7_fewest_18 : decode cX7_fewest 18 = .ok (.istore 7, 2) := by decide +kernel
theorem dX7_fewest_20 : decode cX7_fewest 20 = .ok (.iload 7, 2) := by decide +kernel
theorem dX7_fewest_22 : decode cX7_fewest 22 = .ok (.iload 5, 2) := by decide +kernel
theorem dX7_fewest_24 : decode cX7_fewest 24 = .ok (.if_icmp .ge 61, 3) := by decide +kernel
theorem dX7_fewest_27 : decode cX7_fewest 27 = .ok (.aload_n 0, 1) := by decide +kernel
theorem dX7_fewest_28 : decode cX7_fewest 28 = .ok (.iload 7, 2) := by decide +kernel
theorem dX7_fewest_30 : decode cX7_fewest 30 = .ok (.iload 6, 2) := by decide +kernel
theorem dX7_fewest_32 : decode cX7_fewest 32 = .ok (.invokevirtual 228, 3) := by decide +kernel
theorem dX7_fewest_35 : decode cX7_fewest 35 = .ok (.aload_n 0, 1) := by decide +kernel
theorem dX7_fewest_36 : decode cX7_fewest 36 = .ok (.iload_n 1, 1) := by decide +kernel
theorem dX7_fewest_37 : decode cX7_fewest 37 = .ok (.invokevirtual 213, 3) := by decide +kernel
theorem dX7_fewest_40 : decode cX7_fewest 40 = .ok (.iload_n 2, 1) := by decide +kernel
theorem dX7_fewest_41 : decode cX7_fewest 41 = .ok (.if_icmp .ne 17, 3) := by decide +kernel
theorem dX7_fewest_44 : decode cX7_fewest 44 = .ok (.aload_n 0, 1) := by decide +kernel
theorem dX7_fewest_45 : decode cX7_fewest 45 = .ok (.iload_n 3, 1) := by decide +kernel
theorem dX7_fewest_46 : decode cX7_fewest 46 = .ok (.invokevirtual 213, 3) := by decide +kernel
theorem dX7_fewest_49 : decode cX7_fewest 49 = .ok (.iload 4, 2) := by decide +kernel
theorem dX7_fewest_51 : decode cX7_fewest 51 = .ok (.if_icmp .ne 7, 3) := by decide +kernel
theorem dX7_fewest_54 : decode cX7_fewest 54 = .ok (.iconst 1, 1) := by decide +kernel
theorem dX7_fewest_55 : decode cX7_fewest 55 = .ok (.goto 4, 3) := by decide +kernel
theorem dX7_fewest_58 : decode cX7_fewest 58 = .ok (.iconst 0, 1) := by decide +kernel
theorem dX7_fewest_59 : decode cX7_fewest 59 = .ok (.istore 8, 2) := by decide +kernel
theorem dX7_fewest_61 : decode cX7_fewest 61 = .ok (.aload_n 0, 1) := by decide +kernel
theorem dX7_fewest_62 : decode cX7_fewest 62 = .ok (.invokevirtual 225, 3) := by decide +kernel
theorem dX7_fewest_65 : decode cX7_fewest 65 = .ok (.iload 8, 2) := by decide +kernel
theorem dX7_fewest_67 : decode cX7_fewest 67 = .ok (.ifCond .eq 12, 3) := by decide +kernel
theorem dX7_fewest_70 : decode cX7_fewest 70 = .ok (.aload_n 0, 1) := by decide +kernel
theorem dX7_fewest_71 : decode cX7_fewest 71 = .ok (.iload 7, 2) := by decide +kernel
theorem dX7_fewest_73 : decode cX7_fewest 73 = .ok (.putfield 232, 3) := by decide +kernel
theorem dX7_fewest_76 : decode cX7_fewest 76 = .ok (.iload 6, 2) := by decide +kernel
theorem dX7_fewest_78 : decode cX7_fewest 78 = .ok (.ireturn, 1) := by decide +kernel
theorem dX7_fewest_79 : decode cX7_fewest 79 = .ok (.iinc 7 1, 3) := by decide +kernel
theorem dX7_fewest_82 : decode cX7_fewest 82 = .ok (.goto (-62), 3) := by decide +kernel
theorem dX7_fewest_85 : decode cX7_fewest 85 = .ok (.iload 5, 2) := by decide +kernel
theorem dX7_fewest_87 : decode cX7_fewest 87 = .ok (.iconst 5, 1) := by decide +kernel
theorem dX7_fewest_88 : decode cX7_fewest 88 = .ok (.imul, 1) := by decide +kernel
theorem dX7_fewest_89 : decode cX7_fewest 89 = .ok (.istore 5, 2) := by decide +kernel
theorem dX7_fewest_91 : decode cX7_fewest 91 = .ok (.iinc 6 1, 3) := by decide +kernel
theorem dX7_fewest_94 : decode cX7_fewest 94 = .ok (.goto (-84), 3) := by decide +kernel
theorem dX7_fewest_97 : decode cX7_fewest 97 = .ok (.sipush (-1001), 3) := by decide +kernel
theorem dX7_fewest_100 : decode cX7_fewest 100 = .ok (.ireturn, 1) := by decide +kernel
theorem dX7_few_0 : decode cX7_few 0 = .ok (.aload_n 0, 1) := by decide +kernel
theorem dX7_few_1 : decode cX7_few 1 = .ok (.iload_n 1, 1) := by decide +kernel
theorem dX7_few_2 : decode cX7_few 2 = .ok (.invokevirtual 193, 3) := by decide +kernel
theorem dX7_few_5 : decode cX7_few 5 = .ok (.ifCond .eq 22, 3) := by decide +kernel
theorem dX7_few_8 : decode cX7_few 8 = .ok (.iload_n 2, 1) := by decide +kernel
theorem dX7_few_9 : decode cX7_few 9 = .ok (.i2l, 1) := by decide +kernel
theorem dX7_few_10 : decode cX7_few 10 = .ok (.ldc2_w 235, 3) := by decide +kernel
theorem dX7_few_13 : decode cX7_few 13 = .ok (.ldc2_w 237, 3) := by decide +kernel
theorem dX7_few_16 : decode cX7_few 16 = .ok (.invokestatic 52, 3) := by decide +kernel
theorem dX7_few_19 : decode cX7_few 19 = .ok (.ifCond .eq 8, 3) := by decide +kernel
theorem dX7_few_22 : decode cX7_few 22 = .ok (.iload_n 3, 1) := by decide +kernel
theorem dX7_few_23 : decode cX7_few 23 = .ok (.iconst (-1), 1) := by decide +kernel
theorem dX7_few_24 : decode cX7_few 24 = .ok (.if_icmp .ge 8, 3) := by decide +kernel
theorem dX7_few_27 : decode cX7_few 27 = .ok (.aload_n 0, 1) := by decide +kernel
theorem dX7_few_28 : decode cX7_few 28 = .ok (.invokevirtual 216, 3) := by decide +kernel
theorem dX7_few_31 : decode cX7_few 31 = .ok (.ireturn, 1) := by decide +kernel
theorem dX7_few_32 : decode cX7_few 32 = .ok (.aload_n 0, 1) := by decide +kernel
theorem dX7_few_33 : decode cX7_few 33 = .ok (.iload_n 1, 1) := by decide +kernel
theorem dX7_few_34 : decode cX7_few 34 = .ok (.iload_n 2, 1) := by decide +kernel
theorem dX7_few_35 : decode cX7_few 35 = .ok (.iload_n 1, 1) := by decide +kernel
theorem dX7_few_36 : decode cX7_few 36 = .ok (.iload_n 2, 1) := by decide +kernel
theorem dX7_few_37 : decode cX7_few 37 = .ok (.invokevirtual 239, 3) := by decide +kernel
theorem dX7_few_40 : decode cX7_few 40 = .ok (.istore 4, 2) := by decide +kernel
theorem dX7_few_42 : decode cX7_few 42 = .ok (.iload 4, 2) := by decide +kernel
theorem dX7_few_44 : decode cX7_few 44 = .ok (.sipush (-1001), 3) := by decide +kernel
theorem dX7_few_47 : decode cX7_few 47 = .ok (.if_icmp .ne 6, 3) := by decide +kernel
theorem dX7_few_50 : decode cX7_few 50 = .ok (.bipush (-6), 2) := by decide +kernel
theorem dX7_few_52 : decode cX7_few 52 = .ok (.ireturn, 1) := by decide +kernel
theorem dX7_few_53 : decode cX7_few 53 = .ok (.aload_n 0, 1) := by decide +kernel
theorem dX7_few_54 : decode cX7_few 54 = .ok (.getfield 232, 3) := by decide +kernel
theorem dX7_few_57 : decode cX7_few 57 = .ok (.istore 5, 2) := by decide +kernel
theorem dX7_few_59 : decode cX7_few 59 = .ok (.iconst 0, 1) := by decide +kernel
theorem dX7_few_60 : decode cX7_few 60 = .ok (.istore 6, 2) := by decide +kernel
theorem dX7_few_62 : decode cX7_few 62 = .ok (.iload 4, 2) := by decide +kernel
theorem dX7_few_64 : decode cX7_few 64 = .ok (.iconst 1, 1) := by decide +kernel
theorem dX7_few_65 : decode cX7_few 65 = .ok (.isub, 1) := by decide +kernel
theorem dX7_few_66 : decode cX7_few 66 = .ok (.istore 7, 2) := by decide +kernel
theorem dX7_few_68 : decode cX7_few 68 = .ok (.iload 7, 2) := by decide +kernel
theorem dX7_few_70 : decode cX7_few 70 = .ok (.ifCond .lt 32, 3) := by decide +kernel
theorem dX7_few_73 : decode cX7_few 73 = .ok (.iload 7, 2) := by decide +kernel
theorem dX7_few_75 : decode cX7_few 75 = .ok (.iload_n 3, 1) := by decide +kernel
theorem dX7_few_76 : decode cX7_few 76 = .ok (.if_icmp .ne 10, 3) := by decide +kernel
theorem dX7_few_79 : decode cX7_few 79 = .ok (.iload 5, 2) := by decide +kernel
theorem dX7_few_81 : decode cX7_few 81 = .ok (.iconst 5, 1) := by decide +kernel
theorem dX7_few_82 : decode cX7_few 82 = .ok (.irem, 1) := by decide +kernel
theorem dX7_few_83 : decode cX7_few 83 = .ok (.goto 5, 3) := by decide +kernel
theorem dX7_few_86 : decode cX7_few 86 = .ok (.iload 6, 2) := by decide +kernel
theorem dX7_few_88 : decode cX7_few 88 = .ok (.istore 6, 2) := by decide +kernel
theorem dX7_few_90 : decode cX7_few 90 = .ok (.iload 5, 2) := by decide +kernel
theorem dX7_few_92 : decode cX7_few 92 = .ok (.iconst 5, 1) := by decide +kernel
theorem dX7_few_93 : decode cX7_few 93 = .ok (.idiv, 1) := by decide +kernel
theorem dX7_few_94 : decode cX7_few 94 = .ok (.istore 5, 2) := by decide +kernel
theorem dX7_few_96 : decode cX7_few 96 = .ok (.iinc 7 (-1), 3) := by decide +kernel
theorem dX7_few_99 : decode cX7_few 99 = .ok (.goto (-31), 3) := by decide +kernel
theorem dX7_few_102 : decode cX7_few 102 = .ok (.aload_n 0, 1) := by decide +kernel
theorem dX7_few_103 : decode cX7_few 103 = .ok (.iload 4, 2) := by decide +kernel
theorem dX7_few_105 : decode cX7_few 105 = .ok (.iload_n 3, 1) := by decide +kernel
theorem dX7_few_106 : decode cX7_few 106 = .ok (.iload 6, 2) := by decide +kernel
theorem dX7_few_108 : decode cX7_few 108 = .ok (.invokevirtual 219, 3) := by decide +kernel
theorem dX7_few_111 : decode cX7_few 111 = .ok (.ireturn, 1) := by decide +kernel
theorem dX7_both_0 : decode cX7_both 0 = .ok (.aload_n 0, 1) := by decide +kernel
theorem dX7_both_1 : decode cX7_both 1 = .ok (.iload_n 1, 1) := by decide +kernel
theorem dX7_both_2 : decode cX7_both 2 = .ok (.invokevirtual 193, 3) := by decide +kernel
theorem dX7_both_5 : decode cX7_both 5 = .ok (.ifCond .eq 45, 3) := by decide +kernel
theorem dX7_both_8 : decode cX7_both 8 = .ok (.aload_n 0, 1) := by decide +kernel
theorem dX7_both_9 : decode cX7_both 9 = .ok (.iload_n 3, 1) := by decide +kernel
theorem dX7_both_10 : decode cX7_both 10 = .ok (.invokevirtual 193, 3) := by decide +kernel
theorem dX7_both_13 : decode cX7_both 13 = .ok (.ifCond .eq 37, 3) := by decide +kernel
theorem dX7_both_16 : decode cX7_both 16 = .ok (.iload_n 1, 1) := by decide +kernel
theorem dX7_both_17 : decode cX7_both 17 = .ok (.iload_n 3, 1) := by decide +kernel
theorem dX7_both_18 : decode cX7_both 18 = .ok (.if_icmp .eq 32, 3) := by decide +kernel
theorem dX7_both_21 : decode cX7_both 21 = .ok (.iload_n 2, 1) := by decide +kernel
theorem dX7_both_22 : decode cX7_both 22 = .ok (.i2l, 1) := by decide +kernel
theorem dX7_both_23 : decode cX7_both 23 = .ok (.ldc2_w 235, 3) := by decide +kernel
theorem dX7_both_26 : decode cX7_both 26 = .ok (.ldc2_w 237, 3) := by decide +kernel
theorem dX7_both_29 : decode cX7_both 29 = .ok (.invokestatic 52, 3) := by decide +kernel
theorem dX7_both_32 : decode cX7_both 32 = .ok (.ifCond .eq 18, 3) := by decide +kernel
theorem dX7_both_35 : decode cX7_both 35 = .ok (.iload 4, 2) := by decide +kernel
theorem dX7_both_37 : decode cX7_both 37 = .ok (.i2l, 1) := by decide +kernel
theorem dX7_both_38 : decode cX7_both 38 = .ok (.ldc2_w 235, 3) := by decide +kernel
theorem dX7_both_41 : decode cX7_both 41 = .ok (.ldc2_w 237, 3) := by decide +kernel
theorem dX7_both_44 : decode cX7_both 44 = .ok (.invokestatic 52, 3) := by decide +kernel
theorem dX7_both_47 : decode cX7_both 47 = .ok (.ifCond .ne 8, 3) := by decide +kernel
theorem dX7_both_50 : decode cX7_both 50 = .ok (.aload_n 0, 1) := by decide +kernel
theorem dX7_both_51 : decode cX7_both 51 = .ok (.invokevirtual 84, 3) := by decide +kernel
theorem dX7_both_54 : decode cX7_both 54 = .ok (.ireturn, 1) := by decide +kernel
theorem dX7_both_55 : decode cX7_both 55 = .ok (.aload_n 0, 1) := by decide +kernel
theorem dX7_both_56 : decode cX7_both 56 = .ok (.iload_n 1, 1) := by decide +kernel
theorem dX7_both_57 : decode cX7_both 57 = .ok (.iload_n 2, 1) := by decide +kernel
theorem dX7_both_58 : decode cX7_both 58 = .ok (.iload_n 3, 1) := by decide +kernel
theorem dX7_both_59 : decode cX7_both 59 = .ok (.iload 4, 2) := by decide +kernel
theorem dX7_both_61 : decode cX7_both 61 = .ok (.invokevirtual 239, 3) := by decide +kernel
theorem dX7_both_64 : decode cX7_both 64 = .ok (.ireturn, 1) := by decide +kernel
theorem dX7_off_0 : decode cX7_off 0 = .ok (.iload_n 0, 1) := by decide +kernel
theorem dX7_off_1 : decode cX7_off 1 = .ok (.iload_n 1, 1) := by decide +kernel
theorem dX7_off_2 : decode cX7_off 2 = .ok (.if_icmp .ge 9, 3) := by decide +kernel
theorem dX7_off_5 : decode cX7_off 5 = .ok (.iload_n 1, 1) := by decide +kernel
theorem dX7_off_6 : decode cX7_off 6 = .ok (.iload_n 0, 1) := by decide +kernel
theorem dX7_off_7 : decode cX7_off 7 = .ok (.isub, 1) := by decide +kernel
theorem dX7_off_8 : decode cX7_off 8 = .ok (.goto 6, 3) := by decide +kernel
theorem dX7_off_11 : decode cX7_off 11 = .ok (.iload_n 0, 1) := by decide +kernel
theorem dX7_off_12 : decode cX7_off 12 = .ok (.iload_n 1, 1) := by decide +kernel
theorem dX7_off_13 : decode cX7_off 13 = .ok (.isub, 1) := by decide +kernel
theorem dX7_off_14 : decode cX7_off 14 = .ok (.ireturn, 1) := by decide +kernel
theorem dX7_hole_0 : decode cX7_hole 0 = .ok (.aload_n 0, 1) := by decide +kernel
theorem dX7_hole_1 : decode cX7_hole 1 = .ok (.iload_n 1, 1) := by decide +kernel
theorem dX7_hole_2 : decode cX7_hole 2 = .ok (.invokevirtual 193, 3) := by decide +kernel
theorem dX7_hole_5 : decode cX7_hole 5 = .ok (.ifCond .eq 27, 3) := by decide +kernel
theorem dX7_hole_8 : decode cX7_hole 8 = .ok (.iload_n 2, 1) := by decide +kernel
theorem dX7_hole_9 : decode cX7_hole 9 = .ok (.i2l, 1) := by decide +kernel
theorem dX7_hole_10 : decode cX7_hole 10 = .ok (.ldc2_w 235, 3) := by decide +kernel
theorem dX7_hole_13 : decode cX7_hole 13 = .ok (.ldc2_w 237, 3) := by decide +kernel
theorem dX7_hole_16 : decode cX7_hole 16 = .ok (.invokestatic 52, 3) := by decide +kernel
theorem dX7_hole_19 : decode cX7_hole 19 = .ok (.ifCond .eq 13, 3) := by decide +kernel
theorem dX7_hole_22 : decode cX7_hole 22 = .ok (.iload_n 3, 1) := by decide +kernel
theorem dX7_hole_23 : decode cX7_hole 23 = .ok (.i2l, 1) := by decide +kernel
theorem dX7_hole_24 : decode cX7_hole 24 = .ok (.lconst 0, 1) := by decide +kernel
theorem dX7_hole_25 : decode cX7_hole 25 = .ok (.lconst 1, 1) := by decide +kernel
theorem dX7_hole_26 : decode cX7_hole 26 = .ok (.invokestatic 52, 3) := by decide +kernel
theorem dX7_hole_29 : decode cX7_hole 29 = .ok (.ifCond .ne 8, 3) := by decide +kernel
theorem dX7_hole_32 : decode cX7_hole 32 = .ok (.aload_n 0, 1) := by decide +kernel
theorem dX7_hole_33 : decode cX7_hole 33 = .ok (.invokevirtual 84, 3) := by decide +kernel
theorem dX7_hole_36 : decode cX7_hole 36 = .ok (.ireturn, 1) := by decide +kernel
theorem dX7_hole_37 : decode cX7_hole 37 = .ok (.iconst 0, 1) := by decide +kernel
theorem dX7_hole_38 : decode cX7_hole 38 = .ok (.istore 4, 2) := by decide +kernel
theorem dX7_hole_40 : decode cX7_hole 40 = .ok (.iconst 1, 1) := by decide +kernel
theorem dX7_hole_41 : decode cX7_hole 41 = .ok (.istore 5, 2) := by decide +kernel
theorem dX7_hole_43 : decode cX7_hole 43 = .ok (.iload 5, 2) := by decide +kernel
theorem dX7_hole_45 : decode cX7_hole 45 = .ok (.bipush 9, 2) := by decide +kernel
theorem dX7_hole_47 : decode cX7_hole 47 = .ok (.if_icmp .ge 43, 3) := by decide +kernel
theorem dX7_hole_50 : decode cX7_hole 50 = .ok (.aload_n 0, 1) := by decide +kernel
theorem dX7_hole_51 : decode cX7_hole 51 = .ok (.iload_n 1, 1) := by decide +kernel
theorem dX7_hole_52 : decode cX7_hole 52 = .ok (.iload 5, 2) := by decide +kernel
theorem dX7_hole_54 : decode cX7_hole 54 = .ok (.invokevirtual 72, 3) := by decide +kernel
theorem dX7_hole_57 : decode cX7_hole 57 = .ok (.iload_n 2, 1) := by decide +kernel
theorem dX7_hole_58 : decode cX7_hole 58 = .ok (.invokestatic 242, 3) := by decide +kernel
theorem dX7_hole_61 : decode cX7_hole 61 = .ok (.aload_n 0, 1) := by decide +kernel
theorem dX7_hole_62 : decode cX7_hole 62 = .ok (.iload_n 1, 1) := by decide +kernel
theorem dX7_hole_63 : decode cX7_hole 63 = .ok (.iload 4, 2) := by decide +kernel
theorem dX7_hole_65 : decode cX7_hole 65 = .ok (.invokevirtual 72, 3) := by decide +kernel
theorem dX7_hole_68 : decode cX7_hole 68 = .ok (.iload_n 2, 1) := by decide +kernel
theorem dX7_hole_69 : decode cX7_hole 69 = .ok (.invokestatic 242, 3) := by decide +kernel
theorem dX7_hole_72 : decode cX7_hole 72 = .ok (.if_icmp .ge 8, 3) := by decide +kernel
theorem dX7_hole_75 : decode cX7_hole 75 = .ok (.iload 5, 2) := by decide +kernel
theorem dX7_hole_77 : decode cX7_hole 77 = .ok (.goto 5, 3) := by decide +kernel
theorem dX7_hole_80 : decode cX7_hole 80 = .ok (.iload 4, 2) := by decide +kernel
theorem dX7_hole_82 : decode cX7_hole 82 = .ok (.istore 4, 2) := by decide +kernel
theorem dX7_hole_84 : decode cX7_hole 84 = .ok (.iinc 5 1, 3) := by decide +kernel
theorem dX7_hole_87 : decode cX7_hole 87 = .ok (.goto (-44), 3) := by decide +kernel
theorem dX7_hole_90 : decode cX7_hole 90 = .ok (.iload_n 3, 1) := by decide +kernel
theorem dX7_hole_91 : decode cX7_hole 91 = .ok (.ifCond .ne 8, 3) := by decide +kernel
theorem dX7_hole_94 : decode cX7_hole 94 = .ok (.iload 4, 2) := by decide +kernel
theorem dX7_hole_96 : decode cX7_hole 96 = .ok (.goto 14, 3) := by decide +kernel
theorem dX7_hole_99 : decode cX7_hole 99 = .ok (.aload_n 0, 1) := by decide +kernel
theorem dX7_hole_100 : decode cX7_hole 100 = .ok (.iload_n 1, 1) := by decide +kernel
theorem dX7_hole_101 : decode cX7_hole 101 = .ok (.iload 4, 2) := by decide +kernel
theorem dX7_hole_103 : decode cX7_hole 103 = .ok (.invokevirtual 72, 3) := by decide +kernel
theorem dX7_hole_106 : decode cX7_hole 106 = .ok (.iload_n 2, 1) := by decide +kernel
theorem dX7_hole_107 : decode cX7_hole 107 = .ok (.invokestatic 242, 3) := by decide +kernel
theorem dX7_hole_110 : decode cX7_hole 110 = .ok (.ireturn, 1) := by decide +kernel
theorem dX7_beat_0 : decode cX7_beat 0 = .ok (.iload_n 1, 1) := by decide +kernel
theorem dX7_beat_1 : decode cX7_beat 1 = .ok (.i2l, 1) := by decide +kernel
theorem dX7_beat_2 : decode cX7_beat 2 = .ok (.lconst 0, 1) := by decide +kernel
theorem dX7_beat_3 : decode cX7_beat 3 = .ok (.ldc2_w 211, 3) := by decide +kernel
theorem dX7_beat_6 : decode cX7_beat 6 = .ok (.invokestatic 52, 3) := by decide +kernel
theorem dX7_beat_9 : decode cX7_beat 9 = .ok (.ifCond .eq 29, 3) := by decide +kernel
theorem dX7_beat_12 : decode cX7_beat 12 = .ok (.iload_n 2, 1) := by decide +kernel
theorem dX7_beat_13 : decode cX7_beat 13 = .ok (.i2l, 1) := by decide +kernel
theorem dX7_beat_14 : decode cX7_beat 14 = .ok (.lconst 0, 1) := by decide +kernel
theorem dX7_beat_15 : decode cX7_beat 15 = .ok (.ldc2_w 182, 3) := by decide +kernel
theorem dX7_beat_18 : decode cX7_beat 18 = .ok (.invokestatic 52, 3) := by decide +kernel
theorem dX7_beat_21 : decode cX7_beat 21 = .ok (.ifCond .eq 17, 3) := by decide +kernel
theorem dX7_beat_24 : decode cX7_beat 24 = .ok (.iload_n 3, 1) := by decide +kernel
theorem dX7_beat_25 : decode cX7_beat 25 = .ok (.i2l, 1) := by decide +kernel
theorem dX7_beat_26 : decode cX7_beat 26 = .ok (.ldc2_w 235, 3) := by decide +kernel
theorem dX7_beat_29 : decode cX7_beat 29 = .ok (.ldc2_w 237, 3) := by decide +kernel
theorem dX7_beat_32 : decode cX7_beat 32 = .ok (.invokestatic 52, 3) := by decide +kernel
theorem dX7_beat_35 : decode cX7_beat 35 = .ok (.ifCond .ne 8, 3) := by decide +kernel
theorem dX7_beat_38 : decode cX7_beat 38 = .ok (.aload_n 0, 1) := by decide +kernel
theorem dX7_beat_39 : decode cX7_beat 39 = .ok (.invokevirtual 84, 3) := by decide +kernel
theorem dX7_beat_42 : decode cX7_beat 42 = .ok (.ireturn, 1) := by decide +kernel
theorem dX7_beat_43 : decode cX7_beat 43 = .ok (.aload_n 0, 1) := by decide +kernel
theorem dX7_beat_44 : decode cX7_beat 44 = .ok (.getfield 7, 3) := by decide +kernel
theorem dX7_beat_47 : decode cX7_beat 47 = .ok (.bipush 54, 2) := by decide +kernel
theorem dX7_beat_49 : decode cX7_beat 49 = .ok (.iconst 2, 1) := by decide +kernel
theorem dX7_beat_50 : decode cX7_beat 50 = .ok (.iload_n 1, 1) := by decide +kernel
theorem dX7_beat_51 : decode cX7_beat 51 = .ok (.imul, 1) := by decide +kernel
theorem dX7_beat_52 : decode cX7_beat 52 = .ok (.iadd, 1) := by decide +kernel
theorem dX7_beat_53 : decode cX7_beat 53 = .ok (.iaload, 1) := by decide +kernel
theorem dX7_beat_54 : decode cX7_beat 54 = .ok (.istore 4, 2) := by decide +kernel
theorem dX7_beat_56 : decode cX7_beat 56 = .ok (.aload_n 0, 1) := by decide +kernel
theorem dX7_beat_57 : decode cX7_beat 57 = .ok (.getfield 7, 3) := by decide +kernel
theorem dX7_beat_60 : decode cX7_beat 60 = .ok (.bipush 54, 2) := by decide +kernel
theorem dX7_beat_62 : decode cX7_beat 62 = .ok (.iconst 2, 1) := by decide +kernel
theorem dX7_beat_63 : decode cX7_beat 63 = .ok (.iload_n 1, 1) := by decide +kernel
theorem dX7_beat_64 : decode cX7_beat 64 = .ok (.imul, 1) := by decide +kernel
theorem dX7_beat_65 : decode cX7_beat 65 = .ok (.iadd, 1) := by decide +kernel
theorem dX7_beat_66 : decode cX7_beat 66 = .ok (.iload_n 2, 1) := by decide +kernel
theorem dX7_beat_67 : decode cX7_beat 67 = .ok (.iastore, 1) := by decide +kernel
theorem dX7_beat_68 : decode cX7_beat 68 = .ok (.aload_n 0, 1) := by decide +kernel
theorem dX7_beat_69 : decode cX7_beat 69 = .ok (.getfield 7, 3) := by decide +kernel
theorem dX7_beat_72 : decode cX7_beat 72 = .ok (.bipush 54, 2) := by decide +kernel
theorem dX7_beat_74 : decode cX7_beat 74 = .ok (.iconst 2, 1) := by decide +kernel
theorem dX7_beat_75 : decode cX7_beat 75 = .ok (.iload_n 1, 1) := by decide +kernel
theorem dX7_beat_76 : decode cX7_beat 76 = .ok (.imul, 1) := by decide +kernel
theorem dX7_beat_77 : decode cX7_beat 77 = .ok (.iadd, 1) := by decide +kernel
theorem dX7_beat_78 : decode cX7_beat 78 = .ok (.iconst 1, 1) := by decide +kernel
theorem dX7_beat_79 : decode cX7_beat 79 = .ok (.iadd, 1) := by decide +kernel
theorem dX7_beat_80 : decode cX7_beat 80 = .ok (.iload_n 3, 1) := by decide +kernel
theorem dX7_beat_81 : decode cX7_beat 81 = .ok (.iastore, 1) := by decide +kernel
theorem dX7_beat_82 : decode cX7_beat 82 = .ok (.iload 4, 2) := by decide +kernel
theorem dX7_beat_84 : decode cX7_beat 84 = .ok (.ireturn, 1) := by decide +kernel
theorem dX7_dance_0 : decode cX7_dance 0 = .ok (.iload_n 1, 1) := by decide +kernel
theorem dX7_dance_1 : decode cX7_dance 1 = .ok (.i2l, 1) := by decide +kernel
theorem dX7_dance_2 : decode cX7_dance 2 = .ok (.lconst 0, 1) := by decide +kernel
theorem dX7_dance_3 : decode cX7_dance 3 = .ok (.ldc2_w 245, 3) := by decide +kernel
theorem dX7_dance_6 : decode cX7_dance 6 = .ok (.invokestatic 52, 3) := by decide +kernel
theorem dX7_dance_9 : decode cX7_dance 9 = .ok (.ifCond .ne 8, 3) := by decide +kernel
theorem dX7_dance_12 : decode cX7_dance 12 = .ok (.aload_n 0, 1) := by decide +kernel
theorem dX7_dance_13 : decode cX7_dance 13 = .ok (.invokevirtual 84, 3) := by decide +kernel
theorem dX7_dance_16 : decode cX7_dance 16 = .ok (.ireturn, 1) := by decide +kernel
theorem dX7_dance_17 : decode cX7_dance 17 = .ok (.aload_n 0, 1) := by decide +kernel
theorem dX7_dance_18 : decode cX7_dance 18 = .ok (.getfield 7, 3) := by decide +kernel
theorem dX7_dance_21 : decode cX7_dance 21 = .ok (.bipush 53, 2) := by decide +kernel
theorem dX7_dance_23 : decode cX7_dance 23 = .ok (.iaload, 1) := by decide +kernel
theorem dX7_dance_24 : decode cX7_dance 24 = .ok (.istore_n 2, 1) := by decide +kernel
theorem dX7_dance_25 : decode cX7_dance 25 = .ok (.aload_n 0, 1) := by decide +kernel
theorem dX7_dance_26 : decode cX7_dance 26 = .ok (.getfield 7, 3) := by decide +kernel
theorem dX7_dance_29 : decode cX7_dance 29 = .ok (.bipush 53, 2) := by decide +kernel
theorem dX7_dance_31 : decode cX7_dance 31 = .ok (.iload_n 1, 1) := by decide +kernel
theorem dX7_dance_32 : decode cX7_dance 32 = .ok (.iastore, 1) := by decide +kernel
theorem dX7_dance_33 : decode cX7_dance 33 = .ok (.iload_n 2, 1) := by decide +kernel
theorem dX7_dance_34 : decode cX7_dance 34 = .ok (.ireturn, 1) := by decide +kernel
theorem dX7_comesOut_0 : decode cX7_comesOut 0 = .ok (.aload_n 0, 1) := by decide +kernel
theorem dX7_comesOut_1 : decode cX7_comesOut 1 = .ok (.aload_n 0, 1) := by decide +kernel
theorem dX7_comesOut_2 : decode cX7_comesOut 2 = .ok (.getfield 7, 3) := by decide +kernel
theorem dX7_comesOut_5 : decode cX7_comesOut 5 = .ok (.bipush 53, 2) := by decide +kernel
theorem dX7_comesOut_7 : decode cX7_comesOut 7 = .ok (.iaload, 1) := by decide +kernel
theorem dX7_comesOut_8 : decode cX7_comesOut 8 = .ok (.invokevirtual 193, 3) := by decide +kernel
theorem dX7_comesOut_11 : decode cX7_comesOut 11 = .ok (.ifCond .ne 5, 3) := by decide +kernel
theorem dX7_comesOut_14 : decode cX7_comesOut 14 = .ok (.iconst 0, 1) := by decide +kernel
theorem dX7_comesOut_15 : decode cX7_comesOut 15 = .ok (.ireturn, 1) := by decide +kernel
theorem dX7_comesOut_16 : decode cX7_comesOut 16 = .ok (.aload_n 0, 1) := by decide +kernel
theorem dX7_comesOut_17 : decode cX7_comesOut 17 = .ok (.invokevirtual 222, 3) := by decide +kernel
theorem dX7_comesOut_20 : decode cX7_comesOut 20 = .ok (.iconst 0, 1) := by decide +kernel
theorem dX7_comesOut_21 : decode cX7_comesOut 21 = .ok (.istore_n 1, 1) := by decide +kernel
theorem dX7_comesOut_22 : decode cX7_comesOut 22 = .ok (.iconst 0, 1) := by decide +kernel
theorem dX7_comesOut_23 : decode cX7_comesOut 23 = .ok (.istore_n 2, 1) := by decide +kernel
theorem dX7_comesOut_24 : decode cX7_comesOut 24 = .ok (.iload_n 2, 1) := by decide +kernel
theorem dX7_comesOut_25 : decode cX7_comesOut 25 = .ok (.bipush 8, 2) := by decide +kernel
theorem dX7_comesOut_27 : decode cX7_comesOut 27 = .ok (.if_icmp .ge 59, 3) := by decide +kernel
theorem dX7_comesOut_30 : decode cX7_comesOut 30 = .ok (.aload_n 0, 1) := by decide +kernel
theorem dX7_comesOut_31 : decode cX7_comesOut 31 = .ok (.aload_n 0, 1) := by decide +kernel
theorem dX7_comesOut_32 : decode cX7_comesOut 32 = .ok (.getfield 7, 3) := by decide +kernel
theorem dX7_comesOut_35 : decode cX7_comesOut 35 = .ok (.bipush 54, 2) := by decide +kernel
theorem dX7_comesOut_37 : decode cX7_comesOut 37 = .ok (.iconst 2, 1) := by decide +kernel
theorem dX7_comesOut_38 : decode cX7_comesOut 38 = .ok (.iload_n 2, 1) := by decide +kernel
theorem dX7_comesOut_39 : decode cX7_comesOut 39 = .ok (.imul, 1) := by decide +kernel
theorem dX7_comesOut_40 : decode cX7_comesOut 40 = .ok (.iadd, 1) := by decide +kernel
theorem dX7_comesOut_41 : decode cX7_comesOut 41 = .ok (.iaload, 1) := by decide +kernel
theorem dX7_comesOut_42 : decode cX7_comesOut 42 = .ok (.invokevirtual 184, 3) := by decide +kernel
theorem dX7_comesOut_45 : decode cX7_comesOut 45 = .ok (.iload_n 1, 1) := by decide +kernel
theorem dX7_comesOut_46 : decode cX7_comesOut 46 = .ok (.aload_n 0, 1) := by decide +kernel
theorem dX7_comesOut_47 : decode cX7_comesOut 47 = .ok (.aload_n 0, 1) := by decide +kernel
theorem dX7_comesOut_48 : decode cX7_comesOut 48 = .ok (.getfield 7, 3) := by decide +kernel
theorem dX7_comesOut_51 : decode cX7_comesOut 51 = .ok (.bipush 53, 2) := by decide +kernel
theorem dX7_comesOut_53 : decode cX7_comesOut 53 = .ok (.iaload, 1) := by decide +kernel
theorem dX7_comesOut_54 : decode cX7_comesOut 54 = .ok (.invokevirtual 213, 3) := by decide +kernel
theorem dX7_comesOut_57 : decode cX7_comesOut 57 = .ok (.aload_n 0, 1) := by decide +kernel
theorem dX7_comesOut_58 : decode cX7_comesOut 58 = .ok (.getfield 7, 3) := by decide +kernel
theorem dX7_comesOut_61 : decode cX7_comesOut 61 = .ok (.bipush 54, 2) := by decide +kernel
theorem dX7_comesOut_63 : decode cX7_comesOut 63 = .ok (.iconst 2, 1) := by decide +kernel
theorem dX7_comesOut_64 : decode cX7_comesOut 64 = .ok (.iload_n 2, 1) := by decide +kernel
theorem dX7_comesOut_65 : decode cX7_comesOut 65 = .ok (.imul, 1) := by decide +kernel
theorem dX7_comesOut_66 : decode cX7_comesOut 66 = .ok (.iadd, 1) := by decide +kernel
theorem dX7_comesOut_67 : decode cX7_comesOut 67 = .ok (.iconst 1, 1) := by decide +kernel
theorem dX7_comesOut_68 : decode cX7_comesOut 68 = .ok (.iadd, 1) := by decide +kernel
theorem dX7_comesOut_69 : decode cX7_comesOut 69 = .ok (.iaload, 1) := by decide +kernel
theorem dX7_comesOut_70 : decode cX7_comesOut 70 = .ok (.if_icmp .ne 7, 3) := by decide +kernel
theorem dX7_comesOut_73 : decode cX7_comesOut 73 = .ok (.iconst 1, 1) := by decide +kernel
theorem dX7_comesOut_74 : decode cX7_comesOut 74 = .ok (.goto 4, 3) := by decide +kernel
theorem dX7_comesOut_77 : decode cX7_comesOut 77 = .ok (.iconst 0, 1) := by decide +kernel
theorem dX7_comesOut_78 : decode cX7_comesOut 78 = .ok (.iadd, 1) := by decide +kernel
theorem dX7_comesOut_79 : decode cX7_comesOut 79 = .ok (.istore_n 1, 1) := by decide +kernel
theorem dX7_comesOut_80 : decode cX7_comesOut 80 = .ok (.iinc 2 1, 3) := by decide +kernel
theorem dX7_comesOut_83 : decode cX7_comesOut 83 = .ok (.goto (-59), 3) := by decide +kernel
theorem dX7_comesOut_86 : decode cX7_comesOut 86 = .ok (.aload_n 0, 1) := by decide +kernel
theorem dX7_comesOut_87 : decode cX7_comesOut 87 = .ok (.invokevirtual 225, 3) := by decide +kernel
theorem dX7_comesOut_90 : decode cX7_comesOut 90 = .ok (.iload_n 1, 1) := by decide +kernel
theorem dX7_comesOut_91 : decode cX7_comesOut 91 = .ok (.ireturn, 1) := by decide +kernel
theorem dX7_snaps_0 : decode cX7_snaps 0 = .ok (.aload_n 0, 1) := by decide +kernel
theorem dX7_snaps_1 : decode cX7_snaps 1 = .ok (.invokevirtual 222, 3) := by decide +kernel
theorem dX7_snaps_4 : decode cX7_snaps 4 = .ok (.aload_n 0, 1) := by decide +kernel
theorem dX7_snaps_5 : decode cX7_snaps 5 = .ok (.invokevirtual 208, 3) := by decide +kernel
theorem dX7_snaps_8 : decode cX7_snaps 8 = .ok (.istore_n 1, 1) := by decide +kernel
theorem dX7_snaps_9 : decode cX7_snaps 9 = .ok (.sipush (-1001), 3) := by decide +kernel
theorem dX7_snaps_12 : decode cX7_snaps 12 = .ok (.istore_n 2, 1) := by decide +kernel
theorem dX7_snaps_13 : decode cX7_snaps 13 = .ok (.iconst 0, 1) := by decide +kernel
theorem dX7_snaps_14 : decode cX7_snaps 14 = .ok (.istore_n 3, 1) := by decide +kernel
theorem dX7_snaps_15 : decode cX7_snaps 15 = .ok (.iload_n 3, 1) := by decide +kernel
theorem dX7_snaps_16 : decode cX7_snaps 16 = .ok (.bipush 8, 2) := by decide +kernel
theorem dX7_snaps_18 : decode cX7_snaps 18 = .ok (.if_icmp .ge 45, 3) := by decide +kernel
theorem dX7_snaps_21 : decode cX7_snaps 21 = .ok (.aload_n 0, 1) := by decide +kernel
theorem dX7_snaps_22 : decode cX7_snaps 22 = .ok (.aload_n 0, 1) := by decide +kernel
theorem dX7_snaps_23 : decode cX7_snaps 23 = .ok (.getfield 7, 3) := by decide +kernel
theorem dX7_snaps_26 : decode cX7_snaps 26 = .ok (.bipush 54, 2) := by decide +kernel
theorem dX7_snaps_28 : decode cX7_snaps 28 = .ok (.iconst 2, 1) := by decide +kernel
theorem dX7_snaps_29 : decode cX7_snaps 29 = .ok (.iload_n 3, 1) := by decide +kernel
theorem dX7_snaps_30 : decode cX7_snaps 30 = .ok (.imul, 1) := by decide +kernel
theorem dX7_snaps_31 : decode cX7_snaps 31 = .ok (.iadd, 1) := by decide +kernel
theorem dX7_snaps_32 : decode cX7_snaps 32 = .ok (.iaload, 1) := by decide +kernel
theorem dX7_snaps_33 : decode cX7_snaps 33 = .ok (.invokevirtual 184, 3) := by decide +kernel
theorem dX7_snaps_36 : decode cX7_snaps 36 = .ok (.iload_n 2, 1) := by decide +kernel
theorem dX7_snaps_37 : decode cX7_snaps 37 = .ok (.sipush (-1001), 3) := by decide +kernel
theorem dX7_snaps_40 : decode cX7_snaps 40 = .ok (.if_icmp .ne 15, 3) := by decide +kernel
theorem dX7_snaps_43 : decode cX7_snaps 43 = .ok (.aload_n 0, 1) := by decide +kernel
theorem dX7_snaps_44 : decode cX7_snaps 44 = .ok (.invokevirtual 208, 3) := by decide +kernel
theorem dX7_snaps_47 : decode cX7_snaps 47 = .ok (.iload_n 1, 1) := by decide +kernel
theorem dX7_snaps_48 : decode cX7_snaps 48 = .ok (.if_icmp .le 7, 3) := by decide +kernel
theorem dX7_snaps_51 : decode cX7_snaps 51 = .ok (.iload_n 3, 1) := by decide +kernel
theorem dX7_snaps_52 : decode cX7_snaps 52 = .ok (.goto 4, 3) := by decide +kernel
theorem dX7_snaps_55 : decode cX7_snaps 55 = .ok (.iload_n 2, 1) := by decide +kernel
theorem dX7_snaps_56 : decode cX7_snaps 56 = .ok (.istore_n 2, 1) := by decide +kernel
theorem dX7_snaps_57 : decode cX7_snaps 57 = .ok (.iinc 3 1, 3) := by decide +kernel
theorem dX7_snaps_60 : decode cX7_snaps 60 = .ok (.goto (-45), 3) := by decide +kernel
theorem dX7_snaps_63 : decode cX7_snaps 63 = .ok (.aload_n 0, 1) := by decide +kernel
theorem dX7_snaps_64 : decode cX7_snaps 64 = .ok (.invokevirtual 225, 3) := by decide +kernel
theorem dX7_snaps_67 : decode cX7_snaps 67 = .ok (.iload_n 2, 1) := by decide +kernel
theorem dX7_snaps_68 : decode cX7_snaps 68 = .ok (.ireturn, 1) := by decide +kernel
theorem dX7_tells_0 : decode cX7_tells 0 = .ok (.aload_n 0, 1) := by decide +kernel
theorem dX7_tells_1 : decode cX7_tells 1 = .ok (.getfield 7, 3) := by decide +kernel
theorem dX7_tells_4 : decode cX7_tells 4 = .ok (.iload_n 1, 1) := by decide +kernel
theorem dX7_tells_5 : decode cX7_tells 5 = .ok (.iaload, 1) := by decide +kernel
theorem dX7_tells_6 : decode cX7_tells 6 = .ok (.iload_n 3, 1) := by decide +kernel
theorem dX7_tells_7 : decode cX7_tells 7 = .ok (.if_icmp .ne 8, 3) := by decide +kernel
theorem dX7_tells_10 : decode cX7_tells 10 = .ok (.aload_n 0, 1) := by decide +kernel
theorem dX7_tells_11 : decode cX7_tells 11 = .ok (.invokevirtual 100, 3) := by decide +kernel
theorem dX7_tells_14 : decode cX7_tells 14 = .ok (.ireturn, 1) := by decide +kernel
theorem dX7_tells_15 : decode cX7_tells 15 = .ok (.iload_n 1, 1) := by decide +kernel
theorem dX7_tells_16 : decode cX7_tells 16 = .ok (.iconst 1, 1) := by decide +kernel
theorem dX7_tells_17 : decode cX7_tells 17 = .ok (.iadd, 1) := by decide +kernel
theorem dX7_tells_18 : decode cX7_tells 18 = .ok (.iload_n 2, 1) := by decide +kernel
theorem dX7_tells_19 : decode cX7_tells 19 = .ok (.aload_n 0, 1) := by decide +kernel
theorem dX7_tells_20 : decode cX7_tells 20 = .ok (.getfield 7, 3) := by decide +kernel
theorem dX7_tells_23 : decode cX7_tells 23 = .ok (.iload_n 1, 1) := by decide +kernel
theorem dX7_tells_24 : decode cX7_tells 24 = .ok (.iaload, 1) := by decide +kernel
theorem dX7_tells_25 : decode cX7_tells 25 = .ok (.imul, 1) := by decide +kernel
theorem dX7_tells_26 : decode cX7_tells 26 = .ok (.iadd, 1) := by decide +kernel
theorem dX7_tells_27 : decode cX7_tells 27 = .ok (.istore 9, 2) := by decide +kernel
theorem dX7_tells_29 : decode cX7_tells 29 = .ok (.aload_n 0, 1) := by decide +kernel
theorem dX7_tells_30 : decode cX7_tells 30 = .ok (.getfield 7, 3) := by decide +kernel
theorem dX7_tells_33 : decode cX7_tells 33 = .ok (.iload 9, 2) := by decide +kernel
theorem dX7_tells_35 : decode cX7_tells 35 = .ok (.iload 4, 2) := by decide +kernel
theorem dX7_tells_37 : decode cX7_tells 37 = .ok (.iastore, 1) := by decide +kernel
theorem dX7_tells_38 : decode cX7_tells 38 = .ok (.aload_n 0, 1) := by decide +kernel
theorem dX7_tells_39 : decode cX7_tells 39 = .ok (.getfield 7, 3) := by decide +kernel
theorem dX7_tells_42 : decode cX7_tells 42 = .ok (.iload 9, 2) := by decide +kernel
theorem dX7_tells_44 : decode cX7_tells 44 = .ok (.iconst 1, 1) := by decide +kernel
theorem dX7_tells_45 : decode cX7_tells 45 = .ok (.iadd, 1) := by decide +kernel
theorem dX7_tells_46 : decode cX7_tells 46 = .ok (.iload 5, 2) := by decide +kernel
theorem dX7_tells_48 : decode cX7_tells 48 = .ok (.iastore, 1) := by decide +kernel
theorem dX7_tells_49 : decode cX7_tells 49 = .ok (.aload_n 0, 1) := by decide +kernel
theorem dX7_tells_50 : decode cX7_tells 50 = .ok (.getfield 7, 3) := by decide +kernel
theorem dX7_tells_53 : decode cX7_tells 53 = .ok (.iload 9, 2) := by decide +kernel
theorem dX7_tells_55 : decode cX7_tells 55 = .ok (.iconst 2, 1) := by decide +kernel
theorem dX7_tells_56 : decode cX7_tells 56 = .ok (.iadd, 1) := by decide +kernel
theorem dX7_tells_57 : decode cX7_tells 57 = .ok (.iload 6, 2) := by decide +kernel
theorem dX7_tells_59 : decode cX7_tells 59 = .ok (.iastore, 1) := by decide +kernel
theorem dX7_tells_60 : decode cX7_tells 60 = .ok (.aload_n 0, 1) := by decide +kernel
theorem dX7_tells_61 : decode cX7_tells 61 = .ok (.getfield 7, 3) := by decide +kernel
theorem dX7_tells_64 : decode cX7_tells 64 = .ok (.iload 9, 2) := by decide +kernel
theorem dX7_tells_66 : decode cX7_tells 66 = .ok (.iconst 3, 1) := by decide +kernel
theorem dX7_tells_67 : decode cX7_tells 67 = .ok (.iadd, 1) := by decide +kernel
theorem dX7_tells_68 : decode cX7_tells 68 = .ok (.iload 7, 2) := by decide +kernel
theorem dX7_tells_70 : decode cX7_tells 70 = .ok (.iastore, 1) := by decide +kernel
theorem dX7_tells_71 : decode cX7_tells 71 = .ok (.iload_n 2, 1) := by decide +kernel
theorem dX7_tells_72 : decode cX7_tells 72 = .ok (.iconst 5, 1) := by decide +kernel
theorem dX7_tells_73 : decode cX7_tells 73 = .ok (.if_icmp .ne 14, 3) := by decide +kernel
theorem dX7_tells_76 : decode cX7_tells 76 = .ok (.aload_n 0, 1) := by decide +kernel
theorem dX7_tells_77 : decode cX7_tells 77 = .ok (.getfield 7, 3) := by decide +kernel
theorem dX7_tells_80 : decode cX7_tells 80 = .ok (.iload 9, 2) := by decide +kernel
theorem dX7_tells_82 : decode cX7_tells 82 = .ok (.iconst 4, 1) := by decide +kernel
theorem dX7_tells_83 : decode cX7_tells 83 = .ok (.iadd, 1) := by decide +kernel
theorem dX7_tells_84 : decode cX7_tells 84 = .ok (.iload 8, 2) := by decide +kernel
theorem dX7_tells_86 : decode cX7_tells 86 = .ok (.iastore, 1) := by decide +kernel
theorem dX7_tells_87 : decode cX7_tells 87 = .ok (.aload_n 0, 1) := by decide +kernel
theorem dX7_tells_88 : decode cX7_tells 88 = .ok (.getfield 7, 3) := by decide +kernel
theorem dX7_tells_91 : decode cX7_tells 91 = .ok (.iload_n 1, 1) := by decide +kernel
theorem dX7_tells_92 : decode cX7_tells 92 = .ok (.dup2, 1) := by decide +kernel
theorem dX7_tells_93 : decode cX7_tells 93 = .ok (.iaload, 1) := by decide +kernel
theorem dX7_tells_94 : decode cX7_tells 94 = .ok (.iconst 1, 1) := by decide +kernel
theorem dX7_tells_95 : decode cX7_tells 95 = .ok (.iadd, 1) := by decide +kernel
theorem dX7_tells_96 : decode cX7_tells 96 = .ok (.iastore, 1) := by decide +kernel
theorem dX7_tells_97 : decode cX7_tells 97 = .ok (.aload_n 0, 1) := by decide +kernel
theorem dX7_tells_98 : decode cX7_tells 98 = .ok (.getfield 7, 3) := by decide +kernel
theorem dX7_tells_101 : decode cX7_tells 101 = .ok (.iload_n 1, 1) := by decide +kernel
theorem dX7_tells_102 : decode cX7_tells 102 = .ok (.iaload, 1) := by decide +kernel
theorem dX7_tells_103 : decode cX7_tells 103 = .ok (.ireturn, 1) := by decide +kernel
theorem dX7_seen_0 : decode cX7_seen 0 = .ok (.aload_n 0, 1) := by decide +kernel
theorem dX7_seen_1 : decode cX7_seen 1 = .ok (.iload_n 1, 1) := by decide +kernel
theorem dX7_seen_2 : decode cX7_seen 2 = .ok (.invokevirtual 193, 3) := by decide +kernel
theorem dX7_seen_5 : decode cX7_seen 5 = .ok (.ifCond .eq 42, 3) := by decide +kernel
theorem dX7_seen_8 : decode cX7_seen 8 = .ok (.iload_n 2, 1) := by decide +kernel
theorem dX7_seen_9 : decode cX7_seen 9 = .ok (.i2l, 1) := by decide +kernel
theorem dX7_seen_10 : decode cX7_seen 10 = .ok (.lconst 1, 1) := by decide +kernel
theorem dX7_seen_11 : decode cX7_seen 11 = .ok (.ldc2_w 92, 3) := by decide +kernel
theorem dX7_seen_14 : decode cX7_seen 14 = .ok (.invokestatic 52, 3) := by decide +kernel
theorem dX7_seen_17 : decode cX7_seen 17 = .ok (.ifCond .eq 30, 3) := by decide +kernel
theorem dX7_seen_20 : decode cX7_seen 20 = .ok (.iload_n 3, 1) := by decide +kernel
theorem dX7_seen_21 : decode cX7_seen 21 = .ok (.i2l, 1) := by decide +kernel
theorem dX7_seen_22 : decode cX7_seen 22 = .ok (.lconst 0, 1) := by decide +kernel
theorem dX7_seen_23 : decode cX7_seen 23 = .ok (.ldc2_w 237, 3) := by decide +kernel
theorem dX7_seen_26 : decode cX7_seen 26 = .ok (.invokestatic 52, 3) := by decide +kernel
theorem dX7_seen_29 : decode cX7_seen 29 = .ok (.ifCond .eq 18, 3) := by decide +kernel
theorem dX7_seen_32 : decode cX7_seen 32 = .ok (.iload 4, 2) := by decide +kernel
theorem dX7_seen_34 : decode cX7_seen 34 = .ok (.i2l, 1) := by decide +kernel
theorem dX7_seen_35 : decode cX7_seen 35 = .ok (.ldc2_w 235, 3) := by decide +kernel
theorem dX7_seen_38 : decode cX7_seen 38 = .ok (.ldc2_w 237, 3) := by decide +kernel
theorem dX7_seen_41 : decode cX7_seen 41 = .ok (.invokestatic 52, 3) := by decide +kernel
theorem dX7_seen_44 : decode cX7_seen 44 = .ok (.ifCond .ne 8, 3) := by decide +kernel
theorem dX7_seen_47 : decode cX7_seen 47 = .ok (.aload_n 0, 1) := by decide +kernel
theorem dX7_seen_48 : decode cX7_seen 48 = .ok (.invokevirtual 84, 3) := by decide +kernel
theorem dX7_seen_51 : decode cX7_seen 51 = .ok (.ireturn, 1) := by decide +kernel
theorem dX7_seen_52 : decode cX7_seen 52 = .ok (.aload_n 0, 1) := by decide +kernel
theorem dX7_seen_53 : decode cX7_seen 53 = .ok (.bipush 70, 2) := by decide +kernel
theorem dX7_seen_55 : decode cX7_seen 55 = .ok (.iconst 4, 1) := by decide +kernel
theorem dX7_seen_56 : decode cX7_seen 56 = .ok (.iconst 5, 1) := by decide +kernel
theorem dX7_seen_57 : decode cX7_seen 57 = .ok (.iload_n 1, 1) := by decide +kernel
theorem dX7_seen_58 : decode cX7_seen 58 = .ok (.iload_n 2, 1) := by decide +kernel
theorem dX7_seen_59 : decode cX7_seen 59 = .ok (.iload_n 3, 1) := by decide +kernel
theorem dX7_seen_60 : decode cX7_seen 60 = .ok (.iload 4, 2) := by decide +kernel
theorem dX7_seen_62 : decode cX7_seen 62 = .ok (.iconst 0, 1) := by decide +kernel
theorem dX7_seen_63 : decode cX7_seen 63 = .ok (.invokevirtual 247, 3) := by decide +kernel
theorem dX7_seen_66 : decode cX7_seen 66 = .ok (.ireturn, 1) := by decide +kernel
theorem dX7_note_0 : decode cX7_note 0 = .ok (.aload_n 0, 1) := by decide +kernel
theorem dX7_note_1 : decode cX7_note 1 = .ok (.iload_n 1, 1) := by decide +kernel
theorem dX7_note_2 : decode cX7_note 2 = .ok (.invokevirtual 193, 3) := by decide +kernel
theorem dX7_note_5 : decode cX7_note 5 = .ok (.ifCond .eq 53, 3) := by decide +kernel
theorem dX7_note_8 : decode cX7_note 8 = .ok (.iload_n 2, 1) := by decide +kernel
theorem dX7_note_9 : decode cX7_note 9 = .ok (.i2l, 1) := by decide +kernel
theorem dX7_note_10 : decode cX7_note 10 = .ok (.lconst 1, 1) := by decide +kernel
theorem dX7_note_11 : decode cX7_note 11 = .ok (.ldc2_w 92, 3) := by decide +kernel
theorem dX7_note_14 : decode cX7_note 14 = .ok (.invokestatic 52, 3) := by decide +kernel
theorem dX7_note_17 : decode cX7_note 17 = .ok (.ifCond .eq 41, 3) := by decide +kernel
theorem dX7_note_20 : decode cX7_note 20 = .ok (.iload_n 3, 1) := by decide +kernel
theorem dX7_note_21 : decode cX7_note 21 = .ok (.i2l, 1) := by decide +kernel
theorem dX7_note_22 : decode cX7_note 22 = .ok (.lconst 1, 1) := by decide +kernel
theorem dX7_note_23 : decode cX7_note 23 = .ok (.ldc2_w 90, 3) := by decide +kernel
theorem dX7_note_26 : decode cX7_note 26 = .ok (.invokestatic 52, 3) := by decide +kernel
theorem dX7_note_29 : decode cX7_note 29 = .ok (.ifCond .eq 29, 3) := by decide +kernel
theorem dX7_note_32 : decode cX7_note 32 = .ok (.iload 4, 2) := by decide +kernel
theorem dX7_note_34 : decode cX7_note 34 = .ok (.i2l, 1) := by decide +kernel
theorem dX7_note_35 : decode cX7_note 35 = .ok (.lconst 0, 1) := by decide +kernel
theorem dX7_note_36 : decode cX7_note 36 = .ok (.ldc2_w 251, 3) := by decide +kernel
theorem dX7_note_39 : decode cX7_note 39 = .ok (.invokestatic 52, 3) := by decide +kernel
theorem dX7_note_42 : decode cX7_note 42 = .ok (.ifCond .eq 16, 3) := by decide +kernel
theorem dX7_note_45 : decode cX7_note 45 = .ok (.iload 5, 2) := by decide +kernel
theorem dX7_note_47 : decode cX7_note 47 = .ok (.i2l, 1) := by decide +kernel
theorem dX7_note_48 : decode cX7_note 48 = .ok (.lconst 0, 1) := by decide +kernel
theorem dX7_note_49 : decode cX7_note 49 = .ok (.ldc2_w 237, 3) := by decide +kernel
theorem dX7_note_52 : decode cX7_note 52 = .ok (.invokestatic 52, 3) := by decide +kernel
theorem dX7_note_55 : decode cX7_note 55 = .ok (.ifCond .ne 8, 3) := by decide +kernel
theorem dX7_note_58 : decode cX7_note 58 = .ok (.aload_n 0, 1) := by decide +kernel
theorem dX7_note_59 : decode cX7_note 59 = .ok (.invokevirtual 84, 3) := by decide +kernel
theorem dX7_note_62 : decode cX7_note 62 = .ok (.ireturn, 1) := by decide +kernel
theorem dX7_note_63 : decode cX7_note 63 = .ok (.aload_n 0, 1) := by decide +kernel
theorem dX7_note_64 : decode cX7_note 64 = .ok (.bipush 91, 2) := by decide +kernel
theorem dX7_note_66 : decode cX7_note 66 = .ok (.iconst 5, 1) := by decide +kernel
theorem dX7_note_67 : decode cX7_note 67 = .ok (.bipush 6, 2) := by decide +kernel
theorem dX7_note_69 : decode cX7_note 69 = .ok (.iload_n 1, 1) := by decide +kernel
theorem dX7_note_70 : decode cX7_note 70 = .ok (.iload_n 2, 1) := by decide +kernel
theorem dX7_note_71 : decode cX7_note 71 = .ok (.iload_n 3, 1) := by decide +kernel
theorem dX7_note_72 : decode cX7_note 72 = .ok (.iload 4, 2) := by decide +kernel
theorem dX7_note_74 : decode cX7_note 74 = .ok (.iload 5, 2) := by decide +kernel
theorem dX7_note_76 : decode cX7_note 76 = .ok (.invokevirtual 247, 3) := by decide +kernel
theorem dX7_note_79 : decode cX7_note 79 = .ok (.ireturn, 1) := by decide +kernel
theorem dX7_mark_0 : decode cX7_mark 0 = .ok (.aload_n 0, 1) := by decide +kernel
theorem dX7_mark_1 : decode cX7_mark 1 = .ok (.iload_n 1, 1) := by decide +kernel
theorem dX7_mark_2 : decode cX7_mark 2 = .ok (.invokevirtual 193, 3) := by decide +kernel
theorem dX7_mark_5 : decode cX7_mark 5 = .ok (.ifCond .eq 44, 3) := by decide +kernel
theorem dX7_mark_8 : decode cX7_mark 8 = .ok (.iload_n 2, 1) := by decide +kernel
theorem dX7_mark_9 : decode cX7_mark 9 = .ok (.i2l, 1) := by decide +kernel
theorem dX7_mark_10 : decode cX7_mark 10 = .ok (.ldc2_w 235, 3) := by decide +kernel
theorem dX7_mark_13 : decode cX7_mark 13 = .ok (.ldc2_w 237, 3) := by decide +kernel
theorem dX7_mark_16 : decode cX7_mark 16 = .ok (.invokestatic 52, 3) := by decide +kernel
theorem dX7_mark_19 : decode cX7_mark 19 = .ok (.ifCond .eq 30, 3) := by decide +kernel
theorem dX7_mark_22 : decode cX7_mark 22 = .ok (.iload_n 3, 1) := by decide +kernel
theorem dX7_mark_23 : decode cX7_mark 23 = .ok (.i2l, 1) := by decide +kernel
theorem dX7_mark_24 : decode cX7_mark 24 = .ok (.lconst 0, 1) := by decide +kernel
theorem dX7_mark_25 : decode cX7_mark 25 = .ok (.ldc2_w 251, 3) := by decide +kernel
theorem dX7_mark_28 : decode cX7_mark 28 = .ok (.invokestatic 52, 3) := by decide +kernel
theorem dX7_mark_31 : decode cX7_mark 31 = .ok (.ifCond .eq 18, 3) := by decide +kernel
theorem dX7_mark_34 : decode cX7_mark 34 = .ok (.iload 4, 2) := by decide +kernel
theorem dX7_mark_36 : decode cX7_mark 36 = .ok (.i2l, 1) := by decide +kernel
theorem dX7_mark_37 : decode cX7_mark 37 = .ok (.ldc2_w 235, 3) := by decide +kernel
theorem dX7_mark_40 : decode cX7_mark 40 = .ok (.ldc2_w 237, 3) := by decide +kernel
theorem dX7_mark_43 : decode cX7_mark 43 = .ok (.invokestatic 52, 3) := by decide +kernel
theorem dX7_mark_46 : decode cX7_mark 46 = .ok (.ifCond .ne 8, 3) := by decide +kernel
theorem dX7_mark_49 : decode cX7_mark 49 = .ok (.aload_n 0, 1) := by decide +kernel
theorem dX7_mark_50 : decode cX7_mark 50 = .ok (.invokevirtual 84, 3) := by decide +kernel
theorem dX7_mark_53 : decode cX7_mark 53 = .ok (.ireturn, 1) := by decide +kernel
theorem dX7_mark_54 : decode cX7_mark 54 = .ok (.aload_n 0, 1) := by decide +kernel
theorem dX7_mark_55 : decode cX7_mark 55 = .ok (.bipush 122, 2) := by decide +kernel
theorem dX7_mark_57 : decode cX7_mark 57 = .ok (.iconst 4, 1) := by decide +kernel
theorem dX7_mark_58 : decode cX7_mark 58 = .ok (.bipush 6, 2) := by decide +kernel
theorem dX7_mark_60 : decode cX7_mark 60 = .ok (.iload_n 1, 1) := by decide +kernel
theorem dX7_mark_61 : decode cX7_mark 61 = .ok (.iload_n 2, 1) := by decide +kernel
theorem dX7_mark_62 : decode cX7_mark 62 = .ok (.iload_n 3, 1) := by decide +kernel
theorem dX7_mark_63 : decode cX7_mark 63 = .ok (.iload 4, 2) := by decide +kernel
theorem dX7_mark_65 : decode cX7_mark 65 = .ok (.iconst 0, 1) := by decide +kernel
theorem dX7_mark_66 : decode cX7_mark 66 = .ok (.invokevirtual 247, 3) := by decide +kernel
theorem dX7_mark_69 : decode cX7_mark 69 = .ok (.ireturn, 1) := by decide +kernel
theorem dX7_forget_0 : decode cX7_forget 0 = .ok (.iload_n 1, 1) := by decide +kernel
theorem dX7_forget_1 : decode cX7_forget 1 = .ok (.i2l, 1) := by decide +kernel
theorem dX7_forget_2 : decode cX7_forget 2 = .ok (.lconst 0, 1) := by decide +kernel
theorem dX7_forget_3 : decode cX7_forget 3 = .ok (.ldc2_w 253, 3) := by decide +kernel
theorem dX7_forget_6 : decode cX7_forget 6 = .ok (.invokestatic 52, 3) := by decide +kernel
theorem dX7_forget_9 : decode cX7_forget 9 = .ok (.ifCond .ne 8, 3) := by decide +kernel
theorem dX7_forget_12 : decode cX7_forget 12 = .ok (.aload_n 0, 1) := by decide +kernel
theorem dX7_forget_13 : decode cX7_forget 13 = .ok (.invokevirtual 84, 3) := by decide +kernel
theorem dX7_forget_16 : decode cX7_forget 16 = .ok (.ireturn, 1) := by decide +kernel
theorem dX7_forget_17 : decode cX7_forget 17 = .ok (.iload_n 1, 1) := by decide +kernel
theorem dX7_forget_18 : decode cX7_forget 18 = .ok (.ifCond .ne 8, 3) := by decide +kernel
theorem dX7_forget_21 : decode cX7_forget 21 = .ok (.bipush 70, 2) := by decide +kernel
theorem dX7_forget_23 : decode cX7_forget 23 = .ok (.goto 15, 3) := by decide +kernel
theorem dX7_forget_26 : decode cX7_forget 26 = .ok (.iload_n 1, 1) := by decide +kernel
theorem dX7_forget_27 : decode cX7_forget 27 = .ok (.iconst 1, 1) := by decide +kernel
theorem dX7_forget_28 : decode cX7_forget 28 = .ok (.if_icmp .ne 8, 3) := by decide +kernel
theorem dX7_forget_31 : decode cX7_forget 31 = .ok (.bipush 91, 2) := by decide +kernel
theorem dX7_forget_33 : decode cX7_forget 33 = .ok (.goto 5, 3) := by decide +kernel
theorem dX7_forget_36 : decode cX7_forget 36 = .ok (.bipush 122, 2) := by decide +kernel
theorem dX7_forget_38 : decode cX7_forget 38 = .ok (.istore_n 2, 1) := by decide +kernel
theorem dX7_forget_39 : decode cX7_forget 39 = .ok (.aload_n 0, 1) := by decide +kernel
theorem dX7_forget_40 : decode cX7_forget 40 = .ok (.getfield 7, 3) := by decide +kernel
theorem dX7_forget_43 : decode cX7_forget 43 = .ok (.iload_n 2, 1) := by decide +kernel
theorem dX7_forget_44 : decode cX7_forget 44 = .ok (.iaload, 1) := by decide +kernel
theorem dX7_forget_45 : decode cX7_forget 45 = .ok (.istore_n 3, 1) := by decide +kernel
theorem dX7_forget_46 : decode cX7_forget 46 = .ok (.aload_n 0, 1) := by decide +kernel
theorem dX7_forget_47 : decode cX7_forget 47 = .ok (.getfield 7, 3) := by decide +kernel
theorem dX7_forget_50 : decode cX7_forget 50 = .ok (.iload_n 2, 1) := by decide +kernel
theorem dX7_forget_51 : decode cX7_forget 51 = .ok (.iconst 0, 1) := by decide +kernel
theorem dX7_forget_52 : decode cX7_forget 52 = .ok (.iastore, 1) := by decide +kernel
theorem dX7_forget_53 : decode cX7_forget 53 = .ok (.iload_n 3, 1) := by decide +kernel
theorem dX7_forget_54 : decode cX7_forget 54 = .ok (.ireturn, 1) := by decide +kernel
theorem dX7_heavyHigh_0 : decode cX7_heavyHigh 0 = .ok (.aload_n 0, 1) := by decide +kernel
theorem dX7_heavyHigh_1 : decode cX7_heavyHigh 1 = .ok (.iload_n 1, 1) := by decide +kernel
theorem dX7_heavyHigh_2 : decode cX7_heavyHigh 2 = .ok (.iconst 0, 1) := by decide +kernel
theorem dX7_heavyHigh_3 : decode cX7_heavyHigh 3 = .ok (.invokevirtual 56, 3) := by decide +kernel
theorem dX7_heavyHigh_6 : decode cX7_heavyHigh 6 = .ok (.iload_n 3, 1) := by decide +kernel
theorem dX7_heavyHigh_7 : decode cX7_heavyHigh 7 = .ok (.aload_n 0, 1) := by decide +kernel
theorem dX7_heavyHigh_8 : decode cX7_heavyHigh 8 = .ok (.iload_n 1, 1) := by decide +kernel
theorem dX7_heavyHigh_9 : decode cX7_heavyHigh 9 = .ok (.iconst 1, 1) := by decide +kernel
theorem dX7_heavyHigh_10 : decode cX7_heavyHigh 10 = .ok (.invokevirtual 56, 3) := by decide +kernel
theorem dX7_heavyHigh_13 : decode cX7_heavyHigh 13 = .ok (.iload_n 2, 1) := by decide +kernel
theorem dX7_heavyHigh_14 : decode cX7_heavyHigh 14 = .ok (.iload 4, 2) := by decide +kernel
theorem dX7_heavyHigh_16 : decode cX7_heavyHigh 16 = .ok (.iconst 0, 1) := by decide +kernel
theorem dX7_heavyHigh_17 : decode cX7_heavyHigh 17 = .ok (.invokestatic 64, 3) := by decide +kernel
theorem dX7_heavyHigh_20 : decode cX7_heavyHigh 20 = .ok (.isub, 1) := by decide +kernel
theorem dX7_heavyHigh_21 : decode cX7_heavyHigh 21 = .ok (.iconst 0, 1) := by decide +kernel
theorem dX7_heavyHigh_22 : decode cX7_heavyHigh 22 = .ok (.invokestatic 68, 3) := by decide +kernel
theorem dX7_heavyHigh_25 : decode cX7_heavyHigh 25 = .ok (.ireturn, 1) := by decide +kernel
theorem dX7_weights_0 : decode cX7_weights 0 = .ok (.iconst 0, 1) := by decide +kernel
theorem dX7_weights_1 : decode cX7_weights 1 = .ok (.istore_n 2, 1) := by decide +kernel
theorem dX7_weights_2 : decode cX7_weights 2 = .ok (.iconst 1, 1) := by decide +kernel
theorem dX7_weights_3 : decode cX7_weights 3 = .ok (.istore_n 3, 1) := by decide +kernel
theorem dX7_weights_4 : decode cX7_weights 4 = .ok (.iload_n 3, 1) := by decide +kernel
theorem dX7_weights_5 : decode cX7_weights 5 = .ok (.bipush 10, 2) := by decide +kernel
theorem dX7_weights_7 : decode cX7_weights 7 = .ok (.if_icmp .ge 116, 3) := by decide +kernel
theorem dX7_weights_10 : decode cX7_weights 10 = .ok (.iconst 1, 1) := by decide +kernel
theorem dX7_weights_11 : decode cX7_weights 11 = .ok (.istore 4, 2) := by decide +kernel
theorem dX7_weights_13 : decode cX7_weights 13 = .ok (.iconst 0, 1) := by decide +kernel
theorem dX7_weights_14 : decode cX7_weights 14 = .ok (.istore 5, 2) := by decide +kernel
theorem dX7_weights_16 : decode cX7_weights 16 = .ok (.iload 5, 2) := by decide +kernel
theorem dX7_weights_18 : decode cX7_weights 18 = .ok (.aload_n 0, 1) := by decide +kernel
theorem dX7_weights_19 : decode cX7_weights 19 = .ok (.getfield 7, 3) := by decide +kernel
theorem dX7_weights_22 : decode cX7_weights 22 = .ok (.bipush 70, 2) := by decide +kernel
theorem dX7_weights_24 : decode cX7_weights 24 = .ok (.iaload, 1) := by decide +kernel
theorem dX7_weights_25 : decode cX7_weights 25 = .ok (.if_icmp .ge 77, 3) := by decide +kernel
theorem dX7_weights_28 : decode cX7_weights 28 = .ok (.bipush 71, 2) := by decide +kernel
theorem dX7_weights_30 : decode cX7_weights 30 = .ok (.iconst 4, 1) := by decide +kernel
theorem dX7_weights_31 : decode cX7_weights 31 = .ok (.iload 5, 2) := by decide +kernel
theorem dX7_weights_33 : decode cX7_weights 33 = .ok (.imul, 1) := by decide +kernel
theorem dX7_weights_34 : decode cX7_weights 34 = .ok (.iadd, 1) := by decide +kernel
theorem dX7_weights_35 : decode cX7_weights 35 = .ok (.istore 6, 2) := by decide +kernel
theorem dX7_weights_37 : decode cX7_weights 37 = .ok (.iload 4, 2) := by decide +kernel
theorem dX7_weights_39 : decode cX7_weights 39 = .ok (.ifCond .eq 54, 3) := by decide +kernel
theorem dX7_weights_42 : decode cX7_weights 42 = .ok (.aload_n 0, 1) := by decide +kernel
theorem dX7_weights_43 : decode cX7_weights 43 = .ok (.getfield 7, 3) := by decide +kernel
theorem dX7_weights_46 : decode cX7_weights 46 = .ok (.iload 6, 2) := by decide +kernel
theorem dX7_weights_48 : decode cX7_weights 48 = .ok (.iaload, 1) := by decide +kernel
theorem dX7_weights_49 : decode cX7_weights 49 = .ok (.iload_n 1, 1) := by decide +kernel
theorem dX7_weights_50 : decode cX7_weights 50 = .ok (.if_icmp .ne 39, 3) := by decide +kernel
theorem dX7_weights_53 : decode cX7_weights 53 = .ok (.aload_n 0, 1) := by decide +kernel
theorem dX7_weights_54 : decode cX7_weights 54 = .ok (.iload_n 1, 1) := by decide +kernel
theorem dX7_weights_55 : decode cX7_weights 55 = .ok (.aload_n 0, 1) := by decide +kernel
theorem dX7_weights_56 : decode cX7_weights 56 = .ok (.getfield 7, 3) := by decide +kernel
theorem dX7_weights_59 : decode cX7_weights 59 = .ok (.iload 6, 2) := by decide +kernel
theorem dX7_weights_61 : decode cX7_weights 61 = .ok (.iconst 1, 1) := by decide +kernel
theorem dX7_weights_62 : decode cX7_weights 62 = .ok (.iadd, 1) := by decide +kernel
theorem dX7_weights_63 : decode cX7_weights 63 = .ok (.iaload, 1) := by decide +kernel
theorem dX7_weights_64 : decode cX7_weights 64 = .ok (.aload_n 0, 1) := by decide +kernel
theorem dX7_weights_65 : decode cX7_weights 65 = .ok (.getfield 7, 3) := by decide +kernel
theorem dX7_weights_68 : decode cX7_weights 68 = .ok (.iload 6, 2) := by decide +kernel
theorem dX7_weights_70 : decode cX7_weights 70 = .ok (.iconst 2, 1) := by decide +kernel
theorem dX7_weights_71 : decode cX7_weights 71 = .ok (.iadd, 1) := by decide +kernel
theorem dX7_weights_72 : decode cX7_weights 72 = .ok (.iaload, 1) := by decide +kernel
theorem dX7_weights_73 : decode cX7_weights 73 = .ok (.iload_n 3, 1) := by decide +kernel
theorem dX7_weights_74 : decode cX7_weights 74 = .ok (.invokevirtual 255, 3) := by decide +kernel
theorem dX7_weights_77 : decode cX7_weights 77 = .ok (.aload_n 0, 1) := by decide +kernel
theorem dX7_weights_78 : decode cX7_weights 78 = .ok (.getfield 7, 3) := by decide +kernel
theorem dX7_weights_81 : decode cX7_weights 81 = .ok (.iload 6, 2) := by decide +kernel
theorem dX7_weights_83 : decode cX7_weights 83 = .ok (.iconst 3, 1) := by decide +kernel
theorem dX7_weights_84 : decode cX7_weights 84 = .ok (.iadd, 1) := by decide +kernel
theorem dX7_weights_85 : decode cX7_weights 85 = .ok (.iaload, 1) := by decide +kernel
theorem dX7_weights_86 : decode cX7_weights 86 = .ok (.if_icmp .ne 7, 3) := by decide +kernel
theorem dX7_weights_89 : decode cX7_weights 89 = .ok (.iconst 1, 1) := by decide +kernel
theorem dX7_weights_90 : decode cX7_weights 90 = .ok (.goto 4, 3) := by decide +kernel
theorem dX7_weights_93 : decode cX7_weights 93 = .ok (.iconst 0, 1) := by decide +kernel
theorem dX7_weights_94 : decode cX7_weights 94 = .ok (.istore 4, 2) := by decide +kernel
theorem dX7_weights_96 : decode cX7_weights 96 = .ok (.iinc 5 1, 3) := by decide +kernel
theorem dX7_weights_99 : decode cX7_weights 99 = .ok (.goto (-83), 3) := by decide +kernel
theorem dX7_weights_102 : decode cX7_weights 102 = .ok (.iload_n 2, 1) := by decide +kernel
theorem dX7_weights_103 : decode cX7_weights 103 = .ok (.iload 4, 2) := by decide +kernel
theorem dX7_weights_105 : decode cX7_weights 105 = .ok (.ifCond .eq 9, 3) := by decide +kernel
theorem dX7_weights_108 : decode cX7_weights 108 = .ok (.iconst 1, 1) := by decide +kernel
theorem dX7_weights_109 : decode cX7_weights 109 = .ok (.iload_n 3, 1) := by decide +kernel
theorem dX7_weights_110 : decode cX7_weights 110 = .ok (.ishl, 1) := by decide +kernel
theorem dX7_weights_111 : decode cX7_weights 111 = .ok (.goto 4, 3) := by decide +kernel
theorem dX7_weights_114 : decode cX7_weights 114 = .ok (.iconst 0, 1) := by decide +kernel
theorem dX7_weights_115 : decode cX7_weights 115 = .ok (.ior, 1) := by decide +kernel
theorem dX7_weights_116 : decode cX7_weights 116 = .ok (.istore_n 2, 1) := by decide +kernel
theorem dX7_weights_117 : decode cX7_weights 117 = .ok (.iinc 3 1, 3) := by decide +kernel
theorem dX7_weights_120 : decode cX7_weights 120 = .ok (.goto (-116), 3) := by decide +kernel
theorem dX7_weights_123 : decode cX7_weights 123 = .ok (.iload_n 2, 1) := by decide +kernel
theorem dX7_weights_124 : decode cX7_weights 124 = .ok (.ireturn, 1) := by decide +kernel
theorem dX7_heavy_0 : decode cX7_heavy 0 = .ok (.aload_n 0, 1) := by decide +kernel
theorem dX7_heavy_1 : decode cX7_heavy 1 = .ok (.iload_n 1, 1) := by decide +kernel
theorem dX7_heavy_2 : decode cX7_heavy 2 = .ok (.invokevirtual 193, 3) := by decide +kernel
theorem dX7_heavy_5 : decode cX7_heavy 5 = .ok (.ifCond .eq 15, 3) := by decide +kernel
theorem dX7_heavy_8 : decode cX7_heavy 8 = .ok (.iload_n 2, 1) := by decide +kernel
theorem dX7_heavy_9 : decode cX7_heavy 9 = .ok (.i2l, 1) := by decide +kernel
theorem dX7_heavy_10 : decode cX7_heavy 10 = .ok (.lconst 0, 1) := by decide +kernel
theorem dX7_heavy_11 : decode cX7_heavy 11 = .ok (.ldc2_w 253, 3) := by decide +kernel
theorem dX7_heavy_14 : decode cX7_heavy 14 = .ok (.invokestatic 52, 3) := by decide +kernel
theorem dX7_heavy_17 : decode cX7_heavy 17 = .ok (.ifCond .ne 8, 3) := by decide +kernel
theorem dX7_heavy_20 : decode cX7_heavy 20 = .ok (.aload_n 0, 1) := by decide +kernel
theorem dX7_heavy_21 : decode cX7_heavy 21 = .ok (.invokevirtual 84, 3) := by decide +kernel
theorem dX7_heavy_24 : decode cX7_heavy 24 = .ok (.ireturn, 1) := by decide +kernel
theorem dX7_heavy_25 : decode cX7_heavy 25 = .ok (.aload_n 0, 1) := by decide +kernel
theorem dX7_heavy_26 : decode cX7_heavy 26 = .ok (.iload_n 1, 1) := by decide +kernel
theorem dX7_heavy_27 : decode cX7_heavy 27 = .ok (.invokevirtual 258, 3) := by decide +kernel
theorem dX7_heavy_30 : decode cX7_heavy 30 = .ok (.istore_n 3, 1) := by decide +kernel
theorem dX7_heavy_31 : decode cX7_heavy 31 = .ok (.iconst 0, 1) := by decide +kernel
theorem dX7_heavy_32 : decode cX7_heavy 32 = .ok (.istore 4, 2) := by decide +kernel
theorem dX7_heavy_34 : decode cX7_heavy 34 = .ok (.sipush (-1001), 3) := by decide +kernel
theorem dX7_heavy_37 : decode cX7_heavy 37 = .ok (.istore 5, 2) := by decide +kernel
theorem dX7_heavy_39 : decode cX7_heavy 39 = .ok (.sipush (-1001), 3) := by decide +kernel
theorem dX7_heavy_42 : decode cX7_heavy 42 = .ok (.istore 6, 2) := by decide +kernel
theorem dX7_heavy_44 : decode cX7_heavy 44 = .ok (.iconst 1, 1) := by decide +kernel
theorem dX7_heavy_45 : decode cX7_heavy 45 = .ok (.istore 7, 2) := by decide +kernel
theorem dX7_heavy_47 : decode cX7_heavy 47 = .ok (.iload 7, 2) := by decide +kernel
theorem dX7_heavy_49 : decode cX7_heavy 49 = .ok (.bipush 10, 2) := by decide +kernel
theorem dX7_heavy_51 : decode cX7_heavy 51 = .ok (.if_icmp .ge 74, 3) := by decide +kernel
theorem dX7_heavy_54 : decode cX7_heavy 54 = .ok (.iload_n 3, 1) := by decide +kernel
theorem dX7_heavy_55 : decode cX7_heavy 55 = .ok (.iload 7, 2) := by decide +kernel
theorem dX7_heavy_57 : decode cX7_heavy 57 = .ok (.ishr, 1) := by decide +kernel
theorem dX7_heavy_58 : decode cX7_heavy 58 = .ok (.iconst 1, 1) := by decide +kernel
theorem dX7_heavy_59 : decode cX7_heavy 59 = .ok (.iand, 1) := by decide +kernel
theorem dX7_heavy_60 : decode cX7_heavy 60 = .ok (.iconst 1, 1) := by decide +kernel
theorem dX7_heavy_61 : decode cX7_heavy 61 = .ok (.if_icmp .ne 7, 3) := by decide +kernel
theorem dX7_heavy_64 : decode cX7_heavy 64 = .ok (.iconst 1, 1) := by decide +kernel
theorem dX7_heavy_65 : decode cX7_heavy 65 = .ok (.goto 4, 3) := by decide +kernel
theorem dX7_heavy_68 : decode cX7_heavy 68 = .ok (.iconst 0, 1) := by decide +kernel
theorem dX7_heavy_69 : decode cX7_heavy 69 = .ok (.istore 8, 2) := by decide +kernel
theorem dX7_heavy_71 : decode cX7_heavy 71 = .ok (.iload 8, 2) := by decide +kernel
theorem dX7_heavy_73 : decode cX7_heavy 73 = .ok (.ifCond .eq 13, 3) := by decide +kernel
theorem dX7_heavy_76 : decode cX7_heavy 76 = .ok (.iload 4, 2) := by decide +kernel
theorem dX7_heavy_78 : decode cX7_heavy 78 = .ok (.ifCond .ne 8, 3) := by decide +kernel
theorem dX7_heavy_81 : decode cX7_heavy 81 = .ok (.iload 7, 2) := by decide +kernel
theorem dX7_heavy_83 : decode cX7_heavy 83 = .ok (.goto 5, 3) := by decide +kernel
theorem dX7_heavy_86 : decode cX7_heavy 86 = .ok (.iload 5, 2) := by decide +kernel
theorem dX7_heavy_88 : decode cX7_heavy 88 = .ok (.istore 5, 2) := by decide +kernel
theorem dX7_heavy_90 : decode cX7_heavy 90 = .ok (.iload 8, 2) := by decide +kernel
theorem dX7_heavy_92 : decode cX7_heavy 92 = .ok (.ifCond .eq 8, 3) := by decide +kernel
theorem dX7_heavy_95 : decode cX7_heavy 95 = .ok (.iload 7, 2) := by decide +kernel
theorem dX7_heavy_97 : decode cX7_heavy 97 = .ok (.goto 5, 3) := by decide +kernel
theorem dX7_heavy_100 : decode cX7_heavy 100 = .ok (.iload 6, 2) := by decide +kernel
theorem dX7_heavy_102 : decode cX7_heavy 102 = .ok (.istore 6, 2) := by decide +kernel
theorem dX7_heavy_104 : decode cX7_heavy 104 = .ok (.iload 4, 2) := by decide +kernel
theorem dX7_heavy_106 : decode cX7_heavy 106 = .ok (.iload 8, 2) := by decide +kernel
theorem dX7_heavy_108 : decode cX7_heavy 108 = .ok (.ifCond .eq 7, 3) := by decide +kernel
theorem dX7_heavy_111 : decode cX7_heavy 111 = .ok (.iconst 1, 1) := by decide +kernel
theorem dX7_heavy_112 : decode cX7_heavy 112 = .ok (.goto 4, 3) := by decide +kernel
theorem dX7_heavy_115 : decode cX7_heavy 115 = .ok (.iconst 0, 1) := by decide +kernel
theorem dX7_heavy_116 : decode cX7_heavy 116 = .ok (.iadd, 1) := by decide +kernel
theorem dX7_heavy_117 : decode cX7_heavy 117 = .ok (.istore 4, 2) := by decide +kernel
theorem dX7_heavy_119 : decode cX7_heavy 119 = .ok (.iinc 7 1, 3) := by decide +kernel
theorem dX7_heavy_122 : decode cX7_heavy 122 = .ok (.goto (-75), 3) := by decide +kernel
theorem dX7_heavy_125 : decode cX7_heavy 125 = .ok (.iload_n 2, 1) := by decide +kernel
theorem dX7_heavy_126 : decode cX7_heavy 126 = .ok (.ifCond .ne 8, 3) := by decide +kernel
theorem dX7_heavy_129 : decode cX7_heavy 129 = .ok (.iload 4, 2) := by decide +kernel
theorem dX7_heavy_131 : decode cX7_heavy 131 = .ok (.goto 15, 3) := by decide +kernel
theorem dX7_heavy_134 : decode cX7_heavy 134 = .ok (.iload_n 2, 1) := by decide +kernel
theorem dX7_heavy_135 : decode cX7_heavy 135 = .ok (.iconst 1, 1) := by decide +kernel
theorem dX7_heavy_136 : decode cX7_heavy 136 = .ok (.if_icmp .ne 8, 3) := by decide +kernel
theorem dX7_heavy_139 : decode cX7_heavy 139 = .ok (.iload 5, 2) := by decide +kernel
theorem dX7_heavy_141 : decode cX7_heavy 141 = .ok (.goto 5, 3) := by decide +kernel
theorem dX7_heavy_144 : decode cX7_heavy 144 = .ok (.iload 6, 2) := by decide +kernel
theorem dX7_heavy_146 : decode cX7_heavy 146 = .ok (.ireturn, 1) := by decide +kernel
theorem dX7_parted_0 : decode cX7_parted 0 = .ok (.iconst 0, 1) := by decide +kernel
theorem dX7_parted_1 : decode cX7_parted 1 = .ok (.istore_n 3, 1) := by decide +kernel
theorem dX7_parted_2 : decode cX7_parted 2 = .ok (.iconst 0, 1) := by decide +kernel
theorem dX7_parted_3 : decode cX7_parted 3 = .ok (.istore 4, 2) := by decide +kernel
theorem dX7_parted_5 : decode cX7_parted 5 = .ok (.iload 4, 2) := by decide +kernel
theorem dX7_parted_7 : decode cX7_parted 7 = .ok (.iload_n 2, 1) := by decide +kernel
theorem dX7_parted_8 : decode cX7_parted 8 = .ok (.if_icmp .ge 82, 3) := by decide +kernel
theorem dX7_parted_11 : decode cX7_parted 11 = .ok (.iconst 0, 1) := by decide +kernel
theorem dX7_parted_12 : decode cX7_parted 12 = .ok (.istore 5, 2) := by decide +kernel
theorem dX7_parted_14 : decode cX7_parted 14 = .ok (.iconst 0, 1) := by decide +kernel
theorem dX7_parted_15 : decode cX7_parted 15 = .ok (.istore 6, 2) := by decide +kernel
theorem dX7_parted_17 : decode cX7_parted 17 = .ok (.iload 6, 2) := by decide +kernel
theorem dX7_parted_19 : decode cX7_parted 19 = .ok (.iload_n 2, 1) := by decide +kernel
theorem dX7_parted_20 : decode cX7_parted 20 = .ok (.if_icmp .ge 51, 3) := by decide +kernel
theorem dX7_parted_23 : decode cX7_parted 23 = .ok (.iload 5, 2) := by decide +kernel
theorem dX7_parted_25 : decode cX7_parted 25 = .ok (.iload_n 1, 1) := by decide +kernel
theorem dX7_parted_26 : decode cX7_parted 26 = .ok (.iload 4, 2) := by decide +kernel
theorem dX7_parted_28 : decode cX7_parted 28 = .ok (.ishr, 1) := by decide +kernel
theorem dX7_parted_29 : decode cX7_parted 29 = .ok (.iload_n 1, 1) := by decide +kernel
theorem dX7_parted_30 : decode cX7_parted 30 = .ok (.iload 6, 2) := by decide +kernel
theorem dX7_parted_32 : decode cX7_parted 32 = .ok (.ishr, 1) := by decide +kernel
theorem dX7_parted_33 : decode cX7_parted 33 = .ok (.iand, 1) := by decide +kernel
theorem dX7_parted_34 : decode cX7_parted 34 = .ok (.iconst 1, 1) := by decide +kernel
theorem dX7_parted_35 : decode cX7_parted 35 = .ok (.iand, 1) := by decide +kernel
theorem dX7_parted_36 : decode cX7_parted 36 = .ok (.iconst 1, 1) := by decide +kernel
theorem dX7_parted_37 : decode cX7_parted 37 = .ok (.if_icmp .ne 24, 3) := by decide +kernel
theorem dX7_parted_40 : decode cX7_parted 40 = .ok (.aload_n 0, 1) := by decide +kernel
theorem dX7_parted_41 : decode cX7_parted 41 = .ok (.getfield 26, 3) := by decide +kernel
theorem dX7_parted_44 : decode cX7_parted 44 = .ok (.iload 4, 2) := by decide +kernel
theorem dX7_parted_46 : decode cX7_parted 46 = .ok (.iaload, 1) := by decide +kernel
theorem dX7_parted_47 : decode cX7_parted 47 = .ok (.aload_n 0, 1) := by decide +kernel
theorem dX7_parted_48 : decode cX7_parted 48 = .ok (.getfield 26, 3) := by decide +kernel
theorem dX7_parted_51 : decode cX7_parted 51 = .ok (.iload 6, 2) := by decide +kernel
theorem dX7_parted_53 : decode cX7_parted 53 = .ok (.iaload, 1) := by decide +kernel
theorem dX7_parted_54 : decode cX7_parted 54 = .ok (.if_icmp .ne 7, 3) := by decide +kernel
theorem dX7_parted_57 : decode cX7_parted 57 = .ok (.iconst 1, 1) := by decide +kernel
theorem dX7_parted_58 : decode cX7_parted 58 = .ok (.goto 4, 3) := by decide +kernel
theorem dX7_parted_61 : decode cX7_parted 61 = .ok (.iconst 0, 1) := by decide +kernel
theorem dX7_parted_62 : decode cX7_parted 62 = .ok (.iadd, 1) := by decide +kernel
theorem dX7_parted_63 : decode cX7_parted 63 = .ok (.istore 5, 2) := by decide +kernel
theorem dX7_parted_65 : decode cX7_parted 65 = .ok (.iinc 6 1, 3) := by decide +kernel
theorem dX7_parted_68 : decode cX7_parted 68 = .ok (.goto (-51), 3) := by decide +kernel
theorem dX7_parted_71 : decode cX7_parted 71 = .ok (.iload 5, 2) := by decide +kernel
theorem dX7_parted_73 : decode cX7_parted 73 = .ok (.iload_n 3, 1) := by decide +kernel
theorem dX7_parted_74 : decode cX7_parted 74 = .ok (.if_icmp .le 8, 3) := by decide +kernel
theorem dX7_parted_77 : decode cX7_parted 77 = .ok (.iload 5, 2) := by decide +kernel
theorem dX7_parted_79 : decode cX7_parted 79 = .ok (.goto 4, 3) := by decide +kernel
theorem dX7_parted_82 : decode cX7_parted 82 = .ok (.iload_n 3, 1) := by decide +kernel
theorem dX7_parted_83 : decode cX7_parted 83 = .ok (.istore_n 3, 1) := by decide +kernel
theorem dX7_parted_84 : decode cX7_parted 84 = .ok (.iinc 4 1, 3) := by decide +kernel
theorem dX7_parted_87 : decode cX7_parted 87 = .ok (.goto (-82), 3) := by decide +kernel
theorem dX7_parted_90 : decode cX7_parted 90 = .ok (.iload_n 3, 1) := by decide +kernel
theorem dX7_parted_91 : decode cX7_parted 91 = .ok (.ireturn, 1) := by decide +kernel
theorem dX7_tell_0 : decode cX7_tell 0 = .ok (.aload_n 0, 1) := by decide +kernel
theorem dX7_tell_1 : decode cX7_tell 1 = .ok (.iload_n 1, 1) := by decide +kernel
theorem dX7_tell_2 : decode cX7_tell 2 = .ok (.invokevirtual 193, 3) := by decide +kernel
theorem dX7_tell_5 : decode cX7_tell 5 = .ok (.ifCond .ne 8, 3) := by decide +kernel
theorem dX7_tell_8 : decode cX7_tell 8 = .ok (.aload_n 0, 1) := by decide +kernel
theorem dX7_tell_9 : decode cX7_tell 9 = .ok (.invokevirtual 84, 3) := by decide +kernel
theorem dX7_tell_12 : decode cX7_tell 12 = .ok (.ireturn, 1) := by decide +kernel
theorem dX7_tell_13 : decode cX7_tell 13 = .ok (.aload_n 0, 1) := by decide +kernel
theorem dX7_tell_14 : decode cX7_tell 14 = .ok (.iload_n 1, 1) := by decide +kernel
theorem dX7_tell_15 : decode cX7_tell 15 = .ok (.invokevirtual 258, 3) := by decide +kernel
theorem dX7_tell_18 : decode cX7_tell 18 = .ok (.istore_n 2, 1) := by decide +kernel
theorem dX7_tell_19 : decode cX7_tell 19 = .ok (.sipush (-1001), 3) := by decide +kernel
theorem dX7_tell_22 : decode cX7_tell 22 = .ok (.istore_n 3, 1) := by decide +kernel
theorem dX7_tell_23 : decode cX7_tell 23 = .ok (.bipush 99, 2) := by decide +kernel
theorem dX7_tell_25 : decode cX7_tell 25 = .ok (.istore 4, 2) := by decide +kernel
theorem dX7_tell_27 : decode cX7_tell 27 = .ok (.iconst 1, 1) := by decide +kernel
theorem dX7_tell_28 : decode cX7_tell 28 = .ok (.istore 5, 2) := by decide +kernel
theorem dX7_tell_30 : decode cX7_tell 30 = .ok (.iload 5, 2) := by decide +kernel
theorem dX7_tell_32 : decode cX7_tell 32 = .ok (.bipush 21, 2) := by decide +kernel
theorem dX7_tell_34 : decode cX7_tell 34 = .ok (.if_icmp .ge 86, 3) := by decide +kernel
theorem dX7_tell_37 : decode cX7_tell 37 = .ok (.iload_n 2, 1) := by decide +kernel
theorem dX7_tell_38 : decode cX7_tell 38 = .ok (.ifCond .eq 82, 3) := by decide +kernel
theorem dX7_tell_41 : decode cX7_tell 41 = .ok (.iconst 0, 1) := by decide +kernel
theorem dX7_tell_42 : decode cX7_tell 42 = .ok (.istore 6, 2) := by decide +kernel
theorem dX7_tell_44 : decode cX7_tell 44 = .ok (.iload 6, 2) := by decide +kernel
theorem dX7_tell_46 : decode cX7_tell 46 = .ok (.bipush 10, 2) := by decide +kernel
theorem dX7_tell_48 : decode cX7_tell 48 = .ok (.if_icmp .ge 27, 3) := by decide +kernel
theorem dX7_tell_51 : decode cX7_tell 51 = .ok (.aload_n 0, 1) := by decide +kernel
theorem dX7_tell_52 : decode cX7_tell 52 = .ok (.getfield 26, 3) := by decide +kernel
theorem dX7_tell_55 : decode cX7_tell 55 = .ok (.iload 6, 2) := by decide +kernel
theorem dX7_tell_57 : decode cX7_tell 57 = .ok (.aload_n 0, 1) := by decide +kernel
theorem dX7_tell_58 : decode cX7_tell 58 = .ok (.iload_n 1, 1) := by decide +kernel
theorem dX7_tell_59 : decode cX7_tell 59 = .ok (.iload 5, 2) := by decide +kernel
theorem dX7_tell_61 : decode cX7_tell 61 = .ok (.bipush 30, 2) := by decide +kernel
theorem dX7_tell_63 : decode cX7_tell 63 = .ok (.iload 6, 2) := by decide +kernel
theorem dX7_tell_65 : decode cX7_tell 65 = .ok (.invokevirtual 255, 3) := by decide +kernel
theorem dX7_tell_68 : decode cX7_tell 68 = .ok (.iastore, 1) := by decide +kernel
theorem dX7_tell_69 : decode cX7_tell 69 = .ok (.iinc 6 1, 3) := by decide +kernel
theorem dX7_tell_72 : decode cX7_tell 72 = .ok (.goto (-28), 3) := by decide +kernel
theorem dX7_tell_75 : decode cX7_tell 75 = .ok (.aload_n 0, 1) := by decide +kernel
theorem dX7_tell_76 : decode cX7_tell 76 = .ok (.iload_n 2, 1) := by decide +kernel
theorem dX7_tell_77 : decode cX7_tell 77 = .ok (.bipush 10, 2) := by decide +kernel
theorem dX7_tell_79 : decode cX7_tell 79 = .ok (.invokevirtual 261, 3) := by decide +kernel
theorem dX7_tell_82 : decode cX7_tell 82 = .ok (.istore 6, 2) := by decide +kernel
theorem dX7_tell_84 : decode cX7_tell 84 = .ok (.iload 6, 2) := by decide +kernel
theorem dX7_tell_86 : decode cX7_tell 86 = .ok (.iload 4, 2) := by decide +kernel
theorem dX7_tell_88 : decode cX7_tell 88 = .ok (.if_icmp .ge 8, 3) := by decide +kernel
theorem dX7_tell_91 : decode cX7_tell 91 = .ok (.iload 5, 2) := by decide +kernel
theorem dX7_tell_93 : decode cX7_tell 93 = .ok (.goto 4, 3) := by decide +kernel
theorem dX7_tell_96 : decode cX7_tell 96 = .ok (.iload_n 3, 1) := by decide +kernel
theorem dX7_tell_97 : decode cX7_tell 97 = .ok (.istore_n 3, 1) := by decide +kernel
theorem dX7_tell_98 : decode cX7_tell 98 = .ok (.iload 6, 2) := by decide +kernel
theorem dX7_tell_100 : decode cX7_tell 100 = .ok (.iload 4, 2) := by decide +kernel
theorem dX7_tell_102 : decode cX7_tell 102 = .ok (.if_icmp .ge 8, 3) := by decide +kernel
theorem dX7_tell_105 : decode cX7_tell 105 = .ok (.iload 6, 2) := by decide +kernel
theorem dX7_tell_107 : decode cX7_tell 107 = .ok (.goto 5, 3) := by decide +kernel
theorem dX7_tell_110 : decode cX7_tell 110 = .ok (.iload 4, 2) := by decide +kernel
theorem dX7_tell_112 : decode cX7_tell 112 = .ok (.istore 4, 2) := by decide +kernel
theorem dX7_tell_114 : decode cX7_tell 114 = .ok (.iinc 5 1, 3) := by decide +kernel
theorem dX7_tell_117 : decode cX7_tell 117 = .ok (.goto (-87), 3) := by decide +kernel
theorem dX7_tell_120 : decode cX7_tell 120 = .ok (.iload_n 3, 1) := by decide +kernel
theorem dX7_tell_121 : decode cX7_tell 121 = .ok (.ireturn, 1) := by decide +kernel
theorem dX7_stringsOf_0 : decode cX7_stringsOf 0 = .ok (.iconst 0, 1) := by decide +kernel
theorem dX7_stringsOf_1 : decode cX7_stringsOf 1 = .ok (.istore_n 2, 1) := by decide +kernel
theorem dX7_stringsOf_2 : decode cX7_stringsOf 2 = .ok (.iconst 0, 1) := by decide +kernel
theorem dX7_stringsOf_3 : decode cX7_stringsOf 3 = .ok (.istore_n 3, 1) := by decide +kernel
theorem dX7_stringsOf_4 : decode cX7_stringsOf 4 = .ok (.iload_n 3, 1) := by decide +kernel
theorem dX7_stringsOf_5 : decode cX7_stringsOf 5 = .ok (.bipush 6, 2) := by decide +kernel
theorem dX7_stringsOf_7 : decode cX7_stringsOf 7 = .ok (.if_icmp .ge 123, 3) := by decide +kernel
theorem dX7_stringsOf_10 : decode cX7_stringsOf 10 = .ok (.iconst 1, 1) := by decide +kernel
theorem dX7_stringsOf_11 : decode cX7_stringsOf 11 = .ok (.istore 4, 2) := by decide +kernel
theorem dX7_stringsOf_13 : decode cX7_stringsOf 13 = .ok (.iconst 0, 1) := by decide +kernel
theorem dX7_stringsOf_14 : decode cX7_stringsOf 14 = .ok (.istore 5, 2) := by decide +kernel
theorem dX7_stringsOf_16 : decode cX7_stringsOf 16 = .ok (.iload 5, 2) := by decide +kernel
theorem dX7_stringsOf_18 : decode cX7_stringsOf 18 = .ok (.aload_n 0, 1) := by decide +kernel
theorem dX7_stringsOf_19 : decode cX7_stringsOf 19 = .ok (.getfield 7, 3) := by decide +kernel
theorem dX7_stringsOf_22 : decode cX7_stringsOf 22 = .ok (.bipush 91, 2) := by decide +kernel
theorem dX7_stringsOf_24 : decode cX7_stringsOf 24 = .ok (.iaload, 1) := by decide +kernel
theorem dX7_stringsOf_25 : decode cX7_stringsOf 25 = .ok (.if_icmp .ge 84, 3) := by decide +kernel
theorem dX7_stringsOf_28 : decode cX7_stringsOf 28 = .ok (.bipush 92, 2) := by decide +kernel
theorem dX7_stringsOf_30 : decode cX7_stringsOf 30 = .ok (.iconst 5, 1) := by decide +kernel
theorem dX7_stringsOf_31 : decode cX7_stringsOf 31 = .ok (.iload 5, 2) := by decide +kernel
theorem dX7_stringsOf_33 : decode cX7_stringsOf 33 = .ok (.imul, 1) := by decide +kernel
theorem dX7_stringsOf_34 : decode cX7_stringsOf 34 = .ok (.iadd, 1) := by decide +kernel
theorem dX7_stringsOf_35 : decode cX7_stringsOf 35 = .ok (.istore 6, 2) := by decide +kernel
theorem dX7_stringsOf_37 : decode cX7_stringsOf 37 = .ok (.iload 4, 2) := by decide +kernel
theorem dX7_stringsOf_39 : decode cX7_stringsOf 39 = .ok (.ifCond .eq 61, 3) := by decide +kernel
theorem dX7_stringsOf_42 : decode cX7_stringsOf 42 = .ok (.aload_n 0, 1) := by decide +kernel
theorem dX7_stringsOf_43 : decode cX7_stringsOf 43 = .ok (.getfield 7, 3) := by decide +kernel
theorem dX7_stringsOf_46 : decode cX7_stringsOf 46 = .ok (.iload 6, 2) := by decide +kernel
theorem dX7_stringsOf_48 : decode cX7_stringsOf 48 = .ok (.iaload, 1) := by decide +kernel
theorem dX7_stringsOf_49 : decode cX7_stringsOf 49 = .ok (.iload_n 1, 1) := by decide +kernel
theorem dX7_stringsOf_50 : decode cX7_stringsOf 50 = .ok (.if_icmp .ne 46, 3) := by decide +kernel
theorem dX7_stringsOf_53 : decode cX7_stringsOf 53 = .ok (.iload_n 3, 1) := by decide +kernel
theorem dX7_stringsOf_54 : decode cX7_stringsOf 54 = .ok (.aload_n 0, 1) := by decide +kernel
theorem dX7_stringsOf_55 : decode cX7_stringsOf 55 = .ok (.getfield 7, 3) := by decide +kernel
theorem dX7_stringsOf_58 : decode cX7_stringsOf 58 = .ok (.iload 6, 2) := by decide +kernel
theorem dX7_stringsOf_60 : decode cX7_stringsOf 60 = .ok (.iconst 1, 1) := by decide +kernel
theorem dX7_stringsOf_61 : decode cX7_stringsOf 61 = .ok (.iadd, 1) := by decide +kernel
theorem dX7_stringsOf_62 : decode cX7_stringsOf 62 = .ok (.iaload, 1) := by decide +kernel
theorem dX7_stringsOf_63 : decode cX7_stringsOf 63 = .ok (.aload_n 0, 1) := by decide +kernel
theorem dX7_stringsOf_64 : decode cX7_stringsOf 64 = .ok (.getfield 7, 3) := by decide +kernel
theorem dX7_stringsOf_67 : decode cX7_stringsOf 67 = .ok (.iload 6, 2) := by decide +kernel
theorem dX7_stringsOf_69 : decode cX7_stringsOf 69 = .ok (.iconst 2, 1) := by decide +kernel
theorem dX7_stringsOf_70 : decode cX7_stringsOf 70 = .ok (.iadd, 1) := by decide +kernel
theorem dX7_stringsOf_71 : decode cX7_stringsOf 71 = .ok (.iaload, 1) := by decide +kernel
theorem dX7_stringsOf_72 : decode cX7_stringsOf 72 = .ok (.aload_n 0, 1) := by decide +kernel
theorem dX7_stringsOf_73 : decode cX7_stringsOf 73 = .ok (.getfield 7, 3) := by decide +kernel
theorem dX7_stringsOf_76 : decode cX7_stringsOf 76 = .ok (.iload 6, 2) := by decide +kernel
theorem dX7_stringsOf_78 : decode cX7_stringsOf 78 = .ok (.iconst 3, 1) := by decide +kernel
theorem dX7_stringsOf_79 : decode cX7_stringsOf 79 = .ok (.iadd, 1) := by decide +kernel
theorem dX7_stringsOf_80 : decode cX7_stringsOf 80 = .ok (.iaload, 1) := by decide +kernel
theorem dX7_stringsOf_81 : decode cX7_stringsOf 81 = .ok (.invokestatic 64, 3) := by decide +kernel
theorem dX7_stringsOf_84 : decode cX7_stringsOf 84 = .ok (.aload_n 0, 1) := by decide +kernel
theorem dX7_stringsOf_85 : decode cX7_stringsOf 85 = .ok (.getfield 7, 3) := by decide +kernel
theorem dX7_stringsOf_88 : decode cX7_stringsOf 88 = .ok (.iload 6, 2) := by decide +kernel
theorem dX7_stringsOf_90 : decode cX7_stringsOf 90 = .ok (.iconst 4, 1) := by decide +kernel
theorem dX7_stringsOf_91 : decode cX7_stringsOf 91 = .ok (.iadd, 1) := by decide +kernel
theorem dX7_stringsOf_92 : decode cX7_stringsOf 92 = .ok (.iaload, 1) := by decide +kernel
theorem dX7_stringsOf_93 : decode cX7_stringsOf 93 = .ok (.if_icmp .ne 7, 3) := by decide +kernel
theorem dX7_stringsOf_96 : decode cX7_stringsOf 96 = .ok (.iconst 1, 1) := by decide +kernel
theorem dX7_stringsOf_97 : decode cX7_stringsOf 97 = .ok (.goto 4, 3) := by decide +kernel
theorem dX7_stringsOf_100 : decode cX7_stringsOf 100 = .ok (.iconst 0, 1) := by decide +kernel
theorem dX7_stringsOf_101 : decode cX7_stringsOf 101 = .ok (.istore 4, 2) := by decide +kernel
theorem dX7_stringsOf_103 : decode cX7_stringsOf 103 = .ok (.iinc 5 1, 3) := by decide +kernel
theorem dX7_stringsOf_106 : decode cX7_stringsOf 106 = .ok (.goto (-90), 3) := by decide +kernel
theorem dX7_stringsOf_109 : decode cX7_stringsOf 109 = .ok (.iload_n 2, 1) := by decide +kernel
theorem dX7_stringsOf_110 : decode cX7_stringsOf 110 = .ok (.iload 4, 2) := by decide +kernel
theorem dX7_stringsOf_112 : decode cX7_stringsOf 112 = .ok (.ifCond .eq 9, 3) := by decide +kernel
theorem dX7_stringsOf_115 : decode cX7_stringsOf 115 = .ok (.iconst 1, 1) := by decide +kernel
theorem dX7_stringsOf_116 : decode cX7_stringsOf 116 = .ok (.iload_n 3, 1) := by decide +kernel
theorem dX7_stringsOf_117 : decode cX7_stringsOf 117 = .ok (.ishl, 1) := by decide +kernel
theorem dX7_stringsOf_118 : decode cX7_stringsOf 118 = .ok (.goto 4, 3) := by decide +kernel
theorem dX7_stringsOf_121 : decode cX7_stringsOf 121 = .ok (.iconst 0, 1) := by decide +kernel
theorem dX7_stringsOf_122 : decode cX7_stringsOf 122 = .ok (.ior, 1) := by decide +kernel
theorem dX7_stringsOf_123 : decode cX7_stringsOf 123 = .ok (.istore_n 2, 1) := by decide +kernel
theorem dX7_stringsOf_124 : decode cX7_stringsOf 124 = .ok (.iinc 3 1, 3) := by decide +kernel
theorem dX7_stringsOf_127 : decode cX7_stringsOf 127 = .ok (.goto (-123), 3) := by decide +kernel
theorem dX7_stringsOf_130 : decode cX7_stringsOf 130 = .ok (.iload_n 2, 1) := by decide +kernel
theorem dX7_stringsOf_131 : decode cX7_stringsOf 131 = .ok (.ireturn, 1) := by decide +kernel
theorem dX7_is_0 : decode cX7_is 0 = .ok (.aload_n 0, 1) := by decide +kernel
theorem dX7_is_1 : decode cX7_is 1 = .ok (.iload_n 1, 1) := by decide +kernel
theorem dX7_is_2 : decode cX7_is 2 = .ok (.invokevirtual 193, 3) := by decide +kernel
theorem dX7_is_5 : decode cX7_is 5 = .ok (.ifCond .eq 11, 3) := by decide +kernel
theorem dX7_is_8 : decode cX7_is 8 = .ok (.aload_n 0, 1) := by decide +kernel
theorem dX7_is_9 : decode cX7_is 9 = .ok (.iload_n 1, 1) := by decide +kernel
theorem dX7_is_10 : decode cX7_is 10 = .ok (.invokevirtual 264, 3) := by decide +kernel
theorem dX7_is_13 : decode cX7_is 13 = .ok (.goto 7, 3) := by decide +kernel
theorem dX7_is_16 : decode cX7_is 16 = .ok (.aload_n 0, 1) := by decide +kernel
theorem dX7_is_17 : decode cX7_is 17 = .ok (.invokevirtual 84, 3) := by decide +kernel
theorem dX7_is_20 : decode cX7_is 20 = .ok (.ireturn, 1) := by decide +kernel
theorem dX7_look_0 : decode cX7_look 0 = .ok (.aload_n 0, 1) := by decide +kernel
theorem dX7_look_1 : decode cX7_look 1 = .ok (.iload_n 1, 1) := by decide +kernel
theorem dX7_look_2 : decode cX7_look 2 = .ok (.invokevirtual 193, 3) := by decide +kernel
theorem dX7_look_5 : decode cX7_look 5 = .ok (.ifCond .ne 8, 3) := by decide +kernel
theorem dX7_look_8 : decode cX7_look 8 = .ok (.aload_n 0, 1) := by decide +kernel
theorem dX7_look_9 : decode cX7_look 9 = .ok (.invokevirtual 84, 3) := by decide +kernel
theorem dX7_look_12 : decode cX7_look 12 = .ok (.ireturn, 1) := by decide +kernel
theorem dX7_look_13 : decode cX7_look 13 = .ok (.aload_n 0, 1) := by decide +kernel
theorem dX7_look_14 : decode cX7_look 14 = .ok (.iload_n 1, 1) := by decide +kernel
theorem dX7_look_15 : decode cX7_look 15 = .ok (.invokevirtual 264, 3) := by decide +kernel
theorem dX7_look_18 : decode cX7_look 18 = .ok (.istore_n 2, 1) := by decide +kernel
theorem dX7_look_19 : decode cX7_look 19 = .ok (.sipush (-1001), 3) := by decide +kernel
theorem dX7_look_22 : decode cX7_look 22 = .ok (.istore_n 3, 1) := by decide +kernel
theorem dX7_look_23 : decode cX7_look 23 = .ok (.bipush 99, 2) := by decide +kernel
theorem dX7_look_25 : decode cX7_look 25 = .ok (.istore 4, 2) := by decide +kernel
theorem dX7_look_27 : decode cX7_look 27 = .ok (.bipush 101, 2) := by decide +kernel
theorem dX7_look_29 : decode cX7_look 29 = .ok (.istore 5, 2) := by decide +kernel
theorem dX7_look_31 : decode cX7_look 31 = .ok (.iload 5, 2) := by decide +kernel
theorem dX7_look_33 : decode cX7_look 33 = .ok (.sipush 1000, 3) := by decide +kernel
theorem dX7_look_36 : decode cX7_look 36 = .ok (.if_icmp .ge 112, 3) := by decide +kernel
theorem dX7_look_39 : decode cX7_look 39 = .ok (.iload_n 2, 1) := by decide +kernel
theorem dX7_look_40 : decode cX7_look 40 = .ok (.ifCond .eq 108, 3) := by decide +kernel
theorem dX7_look_43 : decode cX7_look 43 = .ok (.iload 5, 2) := by decide +kernel
theorem dX7_look_45 : decode cX7_look 45 = .ok (.bipush 100, 2) := by decide +kernel
theorem dX7_look_47 : decode cX7_look 47 = .ok (.irem, 1) := by decide +kernel
theorem dX7_look_48 : decode cX7_look 48 = .ok (.i2l, 1) := by decide +kernel
theorem dX7_look_49 : decode cX7_look 49 = .ok (.lconst 1, 1) := by decide +kernel
theorem dX7_look_50 : decode cX7_look 50 = .ok (.ldc2_w 92, 3) := by decide +kernel
theorem dX7_look_53 : decode cX7_look 53 = .ok (.invokestatic 52, 3) := by decide +kernel
theorem dX7_look_56 : decode cX7_look 56 = .ok (.ifCond .eq 86, 3) := by decide +kernel
theorem dX7_look_59 : decode cX7_look 59 = .ok (.iconst 0, 1) := by decide +kernel
theorem dX7_look_60 : decode cX7_look 60 = .ok (.istore 6, 2) := by decide +kernel
theorem dX7_look_62 : decode cX7_look 62 = .ok (.iload 6, 2) := by decide +kernel
theorem dX7_look_64 : decode cX7_look 64 = .ok (.bipush 6, 2) := by decide +kernel
theorem dX7_look_66 : decode cX7_look 66 = .ok (.if_icmp .ge 37, 3) := by decide +kernel
theorem dX7_look_69 : decode cX7_look 69 = .ok (.aload_n 0, 1) := by decide +kernel
theorem dX7_look_70 : decode cX7_look 70 = .ok (.getfield 26, 3) := by decide +kernel
theorem dX7_look_73 : decode cX7_look 73 = .ok (.iload 6, 2) := by decide +kernel
theorem dX7_look_75 : decode cX7_look 75 = .ok (.iload 6, 2) := by decide +kernel
theorem dX7_look_77 : decode cX7_look 77 = .ok (.iload 5, 2) := by decide +kernel
theorem dX7_look_79 : decode cX7_look 79 = .ok (.bipush 100, 2) := by decide +kernel
theorem dX7_look_81 : decode cX7_look 81 = .ok (.irem, 1) := by decide +kernel
theorem dX7_look_82 : decode cX7_look 82 = .ok (.iload 5, 2) := by decide +kernel
theorem dX7_look_84 : decode cX7_look 84 = .ok (.bipush 100, 2) := by decide +kernel
theorem dX7_look_86 : decode cX7_look 86 = .ok (.idiv, 1) := by decide +kernel
theorem dX7_look_87 : decode cX7_look 87 = .ok (.aload_n 0, 1) := by decide +kernel
theorem dX7_look_88 : decode cX7_look 88 = .ok (.iload_n 1, 1) := by decide +kernel
theorem dX7_look_89 : decode cX7_look 89 = .ok (.iconst 5, 1) := by decide +kernel
theorem dX7_look_90 : decode cX7_look 90 = .ok (.invokevirtual 56, 3) := by decide +kernel
theorem dX7_look_93 : decode cX7_look 93 = .ok (.invokestatic 64, 3) := by decide +kernel
theorem dX7_look_96 : decode cX7_look 96 = .ok (.iastore, 1) := by decide +kernel
theorem dX7_look_97 : decode cX7_look 97 = .ok (.iinc 6 1, 3) := by decide +kernel
theorem dX7_look_100 : decode cX7_look 100 = .ok (.goto (-38), 3) := by decide +kernel
theorem dX7_look_103 : decode cX7_look 103 = .ok (.aload_n 0, 1) := by decide +kernel
theorem dX7_look_104 : decode cX7_look 104 = .ok (.iload_n 2, 1) := by decide +kernel
theorem dX7_look_105 : decode cX7_look 105 = .ok (.bipush 6, 2) := by decide +kernel
theorem dX7_look_107 : decode cX7_look 107 = .ok (.invokevirtual 261, 3) := by decide +kernel
theorem dX7_look_110 : decode cX7_look 110 = .ok (.istore 6, 2) := by decide +kernel
theorem dX7_look_112 : decode cX7_look 112 = .ok (.iload 6, 2) := by decide +kernel
theorem dX7_look_114 : decode cX7_look 114 = .ok (.iload 4, 2) := by decide +kernel
theorem dX7_look_116 : decode cX7_look 116 = .ok (.if_icmp .ge 8, 3) := by decide +kernel
theorem dX7_look_119 : decode cX7_look 119 = .ok (.iload 5, 2) := by decide +kernel
theorem dX7_look_121 : decode cX7_look 121 = .ok (.goto 4, 3) := by decide +kernel
theorem dX7_look_124 : decode cX7_look 124 = .ok (.iload_n 3, 1) := by decide +kernel
theorem dX7_look_125 : decode cX7_look 125 = .ok (.istore_n 3, 1) := by decide +kernel
theorem dX7_look_126 : decode cX7_look 126 = .ok (.iload 6, 2) := by decide +kernel
theorem dX7_look_128 : decode cX7_look 128 = .ok (.iload 4, 2) := by decide +kernel
theorem dX7_look_130 : decode cX7_look 130 = .ok (.if_icmp .ge 8, 3) := by decide +kernel
theorem dX7_look_133 : decode cX7_look 133 = .ok (.iload 6, 2) := by decide +kernel
theorem dX7_look_135 : decode cX7_look 135 = .ok (.goto 5, 3) := by decide +kernel
theorem dX7_look_138 : decode cX7_look 138 = .ok (.iload 4, 2) := by decide +kernel
theorem dX7_look_140 : decode cX7_look 140 = .ok (.istore 4, 2) := by decide +kernel
theorem dX7_look_142 : decode cX7_look 142 = .ok (.iinc 5 1, 3) := by decide +kernel
theorem dX7_look_145 : decode cX7_look 145 = .ok (.goto (-114), 3) := by decide +kernel
theorem dX7_look_148 : decode cX7_look 148 = .ok (.iload_n 3, 1) := by decide +kernel
theorem dX7_look_149 : decode cX7_look 149 = .ok (.ireturn, 1) := by decide +kernel
theorem dX7_kindsOf_0 : decode cX7_kindsOf 0 = .ok (.iconst 0, 1) := by decide +kernel
theorem dX7_kindsOf_1 : decode cX7_kindsOf 1 = .ok (.istore_n 2, 1) := by decide +kernel
theorem dX7_kindsOf_2 : decode cX7_kindsOf 2 = .ok (.iconst 0, 1) := by decide +kernel
theorem dX7_kindsOf_3 : decode cX7_kindsOf 3 = .ok (.istore_n 3, 1) := by decide +kernel
theorem dX7_kindsOf_4 : decode cX7_kindsOf 4 = .ok (.iload_n 3, 1) := by decide +kernel
theorem dX7_kindsOf_5 : decode cX7_kindsOf 5 = .ok (.bipush 6, 2) := by decide +kernel
theorem dX7_kindsOf_7 : decode cX7_kindsOf 7 = .ok (.if_icmp .ge 114, 3) := by decide +kernel
theorem dX7_kindsOf_10 : decode cX7_kindsOf 10 = .ok (.iconst 1, 1) := by decide +kernel
theorem dX7_kindsOf_11 : decode cX7_kindsOf 11 = .ok (.istore 4, 2) := by decide +kernel
theorem dX7_kindsOf_13 : decode cX7_kindsOf 13 = .ok (.iconst 0, 1) := by decide +kernel
theorem dX7_kindsOf_14 : decode cX7_kindsOf 14 = .ok (.istore 5, 2) := by decide +kernel
theorem dX7_kindsOf_16 : decode cX7_kindsOf 16 = .ok (.iload 5, 2) := by decide +kernel
theorem dX7_kindsOf_18 : decode cX7_kindsOf 18 = .ok (.aload_n 0, 1) := by decide +kernel
theorem dX7_kindsOf_19 : decode cX7_kindsOf 19 = .ok (.getfield 7, 3) := by decide +kernel
theorem dX7_kindsOf_22 : decode cX7_kindsOf 22 = .ok (.bipush 122, 2) := by decide +kernel
theorem dX7_kindsOf_24 : decode cX7_kindsOf 24 = .ok (.iaload, 1) := by decide +kernel
theorem dX7_kindsOf_25 : decode cX7_kindsOf 25 = .ok (.if_icmp .ge 75, 3) := by decide +kernel
theorem dX7_kindsOf_28 : decode cX7_kindsOf 28 = .ok (.bipush 123, 2) := by decide +kernel
theorem dX7_kindsOf_30 : decode cX7_kindsOf 30 = .ok (.iconst 4, 1) := by decide +kernel
theorem dX7_kindsOf_31 : decode cX7_kindsOf 31 = .ok (.iload 5, 2) := by decide +kernel
theorem dX7_kindsOf_33 : decode cX7_kindsOf 33 = .ok (.imul, 1) := by decide +kernel
theorem dX7_kindsOf_34 : decode cX7_kindsOf 34 = .ok (.iadd, 1) := by decide +kernel
theorem dX7_kindsOf_35 : decode cX7_kindsOf 35 = .ok (.istore 6, 2) := by decide +kernel
theorem dX7_kindsOf_37 : decode cX7_kindsOf 37 = .ok (.iload 4, 2) := by decide +kernel
theorem dX7_kindsOf_39 : decode cX7_kindsOf 39 = .ok (.ifCond .eq 52, 3) := by decide +kernel
theorem dX7_kindsOf_42 : decode cX7_kindsOf 42 = .ok (.aload_n 0, 1) := by decide +kernel
theorem dX7_kindsOf_43 : decode cX7_kindsOf 43 = .ok (.getfield 7, 3) := by decide +kernel
theorem dX7_kindsOf_46 : decode cX7_kindsOf 46 = .ok (.iload 6, 2) := by decide +kernel
theorem dX7_kindsOf_48 : decode cX7_kindsOf 48 = .ok (.iaload, 1) := by decide +kernel
theorem dX7_kindsOf_49 : decode cX7_kindsOf 49 = .ok (.iload_n 1, 1) := by decide +kernel
theorem dX7_kindsOf_50 : decode cX7_kindsOf 50 = .ok (.if_icmp .ne 37, 3) := by decide +kernel
theorem dX7_kindsOf_53 : decode cX7_kindsOf 53 = .ok (.iload_n 3, 1) := by decide +kernel
theorem dX7_kindsOf_54 : decode cX7_kindsOf 54 = .ok (.aload_n 0, 1) := by decide +kernel
theorem dX7_kindsOf_55 : decode cX7_kindsOf 55 = .ok (.getfield 7, 3) := by decide +kernel
theorem dX7_kindsOf_58 : decode cX7_kindsOf 58 = .ok (.iload 6, 2) := by decide +kernel
theorem dX7_kindsOf_60 : decode cX7_kindsOf 60 = .ok (.iconst 1, 1) := by decide +kernel
theorem dX7_kindsOf_61 : decode cX7_kindsOf 61 = .ok (.iadd, 1) := by decide +kernel
theorem dX7_kindsOf_62 : decode cX7_kindsOf 62 = .ok (.iaload, 1) := by decide +kernel
theorem dX7_kindsOf_63 : decode cX7_kindsOf 63 = .ok (.aload_n 0, 1) := by decide +kernel
theorem dX7_kindsOf_64 : decode cX7_kindsOf 64 = .ok (.getfield 7, 3) := by decide +kernel
theorem dX7_kindsOf_67 : decode cX7_kindsOf 67 = .ok (.iload 6, 2) := by decide +kernel
theorem dX7_kindsOf_69 : decode cX7_kindsOf 69 = .ok (.iconst 2, 1) := by decide +kernel
theorem dX7_kindsOf_70 : decode cX7_kindsOf 70 = .ok (.iadd, 1) := by decide +kernel
theorem dX7_kindsOf_71 : decode cX7_kindsOf 71 = .ok (.iaload, 1) := by decide +kernel
theorem dX7_kindsOf_72 : decode cX7_kindsOf 72 = .ok (.invokestatic 68, 3) := by decide +kernel
theorem dX7_kindsOf_75 : decode cX7_kindsOf 75 = .ok (.aload_n 0, 1) := by decide +kernel
theorem dX7_kindsOf_76 : decode cX7_kindsOf 76 = .ok (.getfield 7, 3) := by decide +kernel
theorem dX7_kindsOf_79 : decode cX7_kindsOf 79 = .ok (.iload 6, 2) := by decide +kernel
theorem dX7_kindsOf_81 : decode cX7_kindsOf 81 = .ok (.iconst 3, 1) := by decide +kernel
theorem dX7_kindsOf_82 : decode cX7_kindsOf 82 = .ok (.iadd, 1) := by decide +kernel
theorem dX7_kindsOf_83 : decode cX7_kindsOf 83 = .ok (.iaload, 1) := by decide +kernel
theorem dX7_kindsOf_84 : decode cX7_kindsOf 84 = .ok (.if_icmp .ne 7, 3) := by decide +kernel
theorem dX7_kindsOf_87 : decode cX7_kindsOf 87 = .ok (.iconst 1, 1) := by decide +kernel
theorem dX7_kindsOf_88 : decode cX7_kindsOf 88 = .ok (.goto 4, 3) := by decide +kernel
theorem dX7_kindsOf_91 : decode cX7_kindsOf 91 = .ok (.iconst 0, 1) := by decide +kernel
theorem dX7_kindsOf_92 : decode cX7_kindsOf 92 = .ok (.istore 4, 2) := by decide +kernel
theorem dX7_kindsOf_94 : decode cX7_kindsOf 94 = .ok (.iinc 5 1, 3) := by decide +kernel
theorem dX7_kindsOf_97 : decode cX7_kindsOf 97 = .ok (.goto (-81), 3) := by decide +kernel
theorem dX7_kindsOf_100 : decode cX7_kindsOf 100 = .ok (.iload_n 2, 1) := by decide +kernel
theorem dX7_kindsOf_101 : decode cX7_kindsOf 101 = .ok (.iload 4, 2) := by decide +kernel
theorem dX7_kindsOf_103 : decode cX7_kindsOf 103 = .ok (.ifCond .eq 9, 3) := by decide +kernel
theorem dX7_kindsOf_106 : decode cX7_kindsOf 106 = .ok (.iconst 1, 1) := by decide +kernel
theorem dX7_kindsOf_107 : decode cX7_kindsOf 107 = .ok (.iload_n 3, 1) := by decide +kernel
theorem dX7_kindsOf_108 : decode cX7_kindsOf 108 = .ok (.ishl, 1) := by decide +kernel
theorem dX7_kindsOf_109 : decode cX7_kindsOf 109 = .ok (.goto 4, 3) := by decide +kernel
theorem dX7_kindsOf_112 : decode cX7_kindsOf 112 = .ok (.iconst 0, 1) := by decide +kernel
theorem dX7_kindsOf_113 : decode cX7_kindsOf 113 = .ok (.ior, 1) := by decide +kernel
theorem dX7_kindsOf_114 : decode cX7_kindsOf 114 = .ok (.istore_n 2, 1) := by decide +kernel
theorem dX7_kindsOf_115 : decode cX7_kindsOf 115 = .ok (.iinc 3 1, 3) := by decide +kernel
theorem dX7_kindsOf_118 : decode cX7_kindsOf 118 = .ok (.goto (-114), 3) := by decide +kernel
theorem dX7_kindsOf_121 : decode cX7_kindsOf 121 = .ok (.iload_n 2, 1) := by decide +kernel
theorem dX7_kindsOf_122 : decode cX7_kindsOf 122 = .ok (.ireturn, 1) := by decide +kernel
theorem dX7_kinds_0 : decode cX7_kinds 0 = .ok (.aload_n 0, 1) := by decide +kernel
theorem dX7_kinds_1 : decode cX7_kinds 1 = .ok (.iload_n 1, 1) := by decide +kernel
theorem dX7_kinds_2 : decode cX7_kinds 2 = .ok (.invokevirtual 193, 3) := by decide +kernel
theorem dX7_kinds_5 : decode cX7_kinds 5 = .ok (.ifCond .eq 11, 3) := by decide +kernel
theorem dX7_kinds_8 : decode cX7_kinds 8 = .ok (.aload_n 0, 1) := by decide +kernel
theorem dX7_kinds_9 : decode cX7_kinds 9 = .ok (.iload_n 1, 1) := by decide +kernel
theorem dX7_kinds_10 : decode cX7_kinds 10 = .ok (.invokevirtual 267, 3) := by decide +kernel
theorem dX7_kinds_13 : decode cX7_kinds 13 = .ok (.goto 7, 3) := by decide +kernel
theorem dX7_kinds_16 : decode cX7_kinds 16 = .ok (.aload_n 0, 1) := by decide +kernel
theorem dX7_kinds_17 : decode cX7_kinds 17 = .ok (.invokevirtual 84, 3) := by decide +kernel
theorem dX7_kinds_20 : decode cX7_kinds 20 = .ok (.ireturn, 1) := by decide +kernel
theorem dX7_ask_0 : decode cX7_ask 0 = .ok (.aload_n 0, 1) := by decide +kernel
theorem dX7_ask_1 : decode cX7_ask 1 = .ok (.iload_n 1, 1) := by decide +kernel
theorem dX7_ask_2 : decode cX7_ask 2 = .ok (.invokevirtual 193, 3) := by decide +kernel
theorem dX7_ask_5 : decode cX7_ask 5 = .ok (.ifCond .ne 8, 3) := by decide +kernel
theorem dX7_ask_8 : decode cX7_ask 8 = .ok (.aload_n 0, 1) := by decide +kernel
theorem dX7_ask_9 : decode cX7_ask 9 = .ok (.invokevirtual 84, 3) := by decide +kernel
theorem dX7_ask_12 : decode cX7_ask 12 = .ok (.ireturn, 1) := by decide +kernel
theorem dX7_ask_13 : decode cX7_ask 13 = .ok (.aload_n 0, 1) := by decide +kernel
theorem dX7_ask_14 : decode cX7_ask 14 = .ok (.iload_n 1, 1) := by decide +kernel
theorem dX7_ask_15 : decode cX7_ask 15 = .ok (.invokevirtual 267, 3) := by decide +kernel
theorem dX7_ask_18 : decode cX7_ask 18 = .ok (.istore_n 2, 1) := by decide +kernel
theorem dX7_ask_19 : decode cX7_ask 19 = .ok (.sipush (-1001), 3) := by decide +kernel
theorem dX7_ask_22 : decode cX7_ask 22 = .ok (.istore_n 3, 1) := by decide +kernel
theorem dX7_ask_23 : decode cX7_ask 23 = .ok (.bipush 99, 2) := by decide +kernel
theorem dX7_ask_25 : decode cX7_ask 25 = .ok (.istore 4, 2) := by decide +kernel
theorem dX7_ask_27 : decode cX7_ask 27 = .ok (.iconst 0, 1) := by decide +kernel
theorem dX7_ask_28 : decode cX7_ask 28 = .ok (.istore 5, 2) := by decide +kernel
theorem dX7_ask_30 : decode cX7_ask 30 = .ok (.iload 5, 2) := by decide +kernel
theorem dX7_ask_32 : decode cX7_ask 32 = .ok (.sipush 202, 3) := by decide +kernel
theorem dX7_ask_35 : decode cX7_ask 35 = .ok (.if_icmp .ge 99, 3) := by decide +kernel
theorem dX7_ask_38 : decode cX7_ask 38 = .ok (.iload_n 2, 1) := by decide +kernel
theorem dX7_ask_39 : decode cX7_ask 39 = .ok (.ifCond .eq 95, 3) := by decide +kernel
theorem dX7_ask_42 : decode cX7_ask 42 = .ok (.iload 5, 2) := by decide +kernel
theorem dX7_ask_44 : decode cX7_ask 44 = .ok (.bipush 10, 2) := by decide +kernel
theorem dX7_ask_46 : decode cX7_ask 46 = .ok (.irem, 1) := by decide +kernel
theorem dX7_ask_47 : decode cX7_ask 47 = .ok (.iconst 2, 1) := by decide +kernel
theorem dX7_ask_48 : decode cX7_ask 48 = .ok (.if_icmp .ge 80, 3) := by decide +kernel
theorem dX7_ask_51 : decode cX7_ask 51 = .ok (.iconst 0, 1) := by decide +kernel
theorem dX7_ask_52 : decode cX7_ask 52 = .ok (.istore 6, 2) := by decide +kernel
theorem dX7_ask_54 : decode cX7_ask 54 = .ok (.iload 6, 2) := by decide +kernel
theorem dX7_ask_56 : decode cX7_ask 56 = .ok (.bipush 6, 2) := by decide +kernel
theorem dX7_ask_58 : decode cX7_ask 58 = .ok (.if_icmp .ge 31, 3) := by decide +kernel
theorem dX7_ask_61 : decode cX7_ask 61 = .ok (.aload_n 0, 1) := by decide +kernel
theorem dX7_ask_62 : decode cX7_ask 62 = .ok (.getfield 26, 3) := by decide +kernel
theorem dX7_ask_65 : decode cX7_ask 65 = .ok (.iload 6, 2) := by decide +kernel
theorem dX7_ask_67 : decode cX7_ask 67 = .ok (.iload 6, 2) := by decide +kernel
theorem dX7_ask_69 : decode cX7_ask 69 = .ok (.iload 5, 2) := by decide +kernel
theorem dX7_ask_71 : decode cX7_ask 71 = .ok (.bipush 10, 2) := by decide +kernel
theorem dX7_ask_73 : decode cX7_ask 73 = .ok (.idiv, 1) := by decide +kernel
theorem dX7_ask_74 : decode cX7_ask 74 = .ok (.iload 5, 2) := by decide +kernel
theorem dX7_ask_76 : decode cX7_ask 76 = .ok (.bipush 10, 2) := by decide +kernel
theorem dX7_ask_78 : decode cX7_ask 78 = .ok (.irem, 1) := by decide +kernel
theorem dX7_ask_79 : decode cX7_ask 79 = .ok (.invokestatic 68, 3) := by decide +kernel
theorem dX7_ask_82 : decode cX7_ask 82 = .ok (.iastore, 1) := by decide +kernel
theorem dX7_ask_83 : decode cX7_ask 83 = .ok (.iinc 6 1, 3) := by decide +kernel
theorem dX7_ask_86 : decode cX7_ask 86 = .ok (.goto (-32), 3) := by decide +kernel
theorem dX7_ask_89 : decode cX7_ask 89 = .ok (.aload_n 0, 1) := by decide +kernel
theorem dX7_ask_90 : decode cX7_ask 90 = .ok (.iload_n 2, 1) := by decide +kernel
theorem dX7_ask_91 : decode cX7_ask 91 = .ok (.bipush 6, 2) := by decide +kernel
theorem dX7_ask_93 : decode cX7_ask 93 = .ok (.invokevirtual 261, 3) := by decide +kernel
theorem dX7_ask_96 : decode cX7_ask 96 = .ok (.istore 6, 2) := by decide +kernel
theorem dX7_ask_98 : decode cX7_ask 98 = .ok (.iload 6, 2) := by decide +kernel
theorem dX7_ask_100 : decode cX7_ask 100 = .ok (.iload 4, 2) := by decide +kernel
theorem dX7_ask_102 : decode cX7_ask 102 = .ok (.if_icmp .ge 8, 3) := by decide +kernel
theorem dX7_ask_105 : decode cX7_ask 105 = .ok (.iload 5, 2) := by decide +kernel
theorem dX7_ask_107 : decode cX7_ask 107 = .ok (.goto 4, 3) := by decide +kernel
theorem dX7_ask_110 : decode cX7_ask 110 = .ok (.iload_n 3, 1) := by decide +kernel
theorem dX7_ask_111 : decode cX7_ask 111 = .ok (.istore_n 3, 1) := by decide +kernel
theorem dX7_ask_112 : decode cX7_ask 112 = .ok (.iload 6, 2) := by decide +kernel
theorem dX7_ask_114 : decode cX7_ask 114 = .ok (.iload 4, 2) := by decide +kernel
theorem dX7_ask_116 : decode cX7_ask 116 = .ok (.if_icmp .ge 8, 3) := by decide +kernel
theorem dX7_ask_119 : decode cX7_ask 119 = .ok (.iload 6, 2) := by decide +kernel
theorem dX7_ask_121 : decode cX7_ask 121 = .ok (.goto 5, 3) := by decide +kernel
theorem dX7_ask_124 : decode cX7_ask 124 = .ok (.iload 4, 2) := by decide +kernel
theorem dX7_ask_126 : decode cX7_ask 126 = .ok (.istore 4, 2) := by decide +kernel
theorem dX7_ask_128 : decode cX7_ask 128 = .ok (.iinc 5 1, 3) := by decide +kernel
theorem dX7_ask_131 : decode cX7_ask 131 = .ok (.goto (-101), 3) := by decide +kernel
theorem dX7_ask_134 : decode cX7_ask 134 = .ok (.iload_n 3, 1) := by decide +kernel
theorem dX7_ask_135 : decode cX7_ask 135 = .ok (.ireturn, 1) := by decide +kernel
theorem dX7_rests_0 : decode cX7_rests 0 = .ok (.iconst 1, 1) := by decide +kernel
theorem dX7_rests_1 : decode cX7_rests 1 = .ok (.istore_n 3, 1) := by decide +kernel
theorem dX7_rests_2 : decode cX7_rests 2 = .ok (.iconst 0, 1) := by decide +kernel
theorem dX7_rests_3 : decode cX7_rests 3 = .ok (.istore 4, 2) := by decide +kernel
theorem dX7_rests_5 : decode cX7_rests 5 = .ok (.iload 4, 2) := by decide +kernel
theorem dX7_rests_7 : decode cX7_rests 7 = .ok (.iconst 5, 1) := by decide +kernel
theorem dX7_rests_8 : decode cX7_rests 8 = .ok (.if_icmp .ge 67, 3) := by decide +kernel
theorem dX7_rests_11 : decode cX7_rests 11 = .ok (.iload_n 3, 1) := by decide +kernel
theorem dX7_rests_12 : decode cX7_rests 12 = .ok (.ifCond .eq 55, 3) := by decide +kernel
theorem dX7_rests_15 : decode cX7_rests 15 = .ok (.aload_n 0, 1) := by decide +kernel
theorem dX7_rests_16 : decode cX7_rests 16 = .ok (.getfield 29, 3) := by decide +kernel
theorem dX7_rests_19 : decode cX7_rests 19 = .ok (.iconst 5, 1) := by decide +kernel
theorem dX7_rests_20 : decode cX7_rests 20 = .ok (.iload 4, 2) := by decide +kernel
theorem dX7_rests_22 : decode cX7_rests 22 = .ok (.imul, 1) := by decide +kernel
theorem dX7_rests_23 : decode cX7_rests 23 = .ok (.iload_n 2, 1) := by decide +kernel
theorem dX7_rests_24 : decode cX7_rests 24 = .ok (.iadd, 1) := by decide +kernel
theorem dX7_rests_25 : decode cX7_rests 25 = .ok (.iaload, 1) := by decide +kernel
theorem dX7_rests_26 : decode cX7_rests 26 = .ok (.aload_n 0, 1) := by decide +kernel
theorem dX7_rests_27 : decode cX7_rests 27 = .ok (.getfield 29, 3) := by decide +kernel
theorem dX7_rests_30 : decode cX7_rests 30 = .ok (.iconst 5, 1) := by decide +kernel
theorem dX7_rests_31 : decode cX7_rests 31 = .ok (.iload_n 1, 1) := by decide +kernel
theorem dX7_rests_32 : decode cX7_rests 32 = .ok (.imul, 1) := by decide +kernel
theorem dX7_rests_33 : decode cX7_rests 33 = .ok (.iload_n 2, 1) := by decide +kernel
theorem dX7_rests_34 : decode cX7_rests 34 = .ok (.iadd, 1) := by decide +kernel
theorem dX7_rests_35 : decode cX7_rests 35 = .ok (.iaload, 1) := by decide +kernel
theorem dX7_rests_36 : decode cX7_rests 36 = .ok (.if_icmp .gt 31, 3) := by decide +kernel
theorem dX7_rests_39 : decode cX7_rests 39 = .ok (.aload_n 0, 1) := by decide +kernel
theorem dX7_rests_40 : decode cX7_rests 40 = .ok (.getfield 32, 3) := by decide +kernel
theorem dX7_rests_43 : decode cX7_rests 43 = .ok (.iconst 5, 1) := by decide +kernel
theorem dX7_rests_44 : decode cX7_rests 44 = .ok (.iload_n 1, 1) := by decide +kernel
theorem dX7_rests_45 : decode cX7_rests 45 = .ok (.imul, 1) := by decide +kernel
theorem dX7_rests_46 : decode cX7_rests 46 = .ok (.iload 4, 2) := by decide +kernel
theorem dX7_rests_48 : decode cX7_rests 48 = .ok (.iadd, 1) := by decide +kernel
theorem dX7_rests_49 : decode cX7_rests 49 = .ok (.iaload, 1) := by decide +kernel
theorem dX7_rests_50 : decode cX7_rests 50 = .ok (.aload_n 0, 1) := by decide +kernel
theorem dX7_rests_51 : decode cX7_rests 51 = .ok (.getfield 32, 3) := by decide +kernel
theorem dX7_rests_54 : decode cX7_rests 54 = .ok (.iconst 5, 1) := by decide +kernel
theorem dX7_rests_55 : decode cX7_rests 55 = .ok (.iload_n 1, 1) := by decide +kernel
theorem dX7_rests_56 : decode cX7_rests 56 = .ok (.imul, 1) := by decide +kernel
theorem dX7_rests_57 : decode cX7_rests 57 = .ok (.iload_n 2, 1) := by decide +kernel
theorem dX7_rests_58 : decode cX7_rests 58 = .ok (.iadd, 1) := by decide +kernel
theorem dX7_rests_59 : decode cX7_rests 59 = .ok (.iaload, 1) := by decide +kernel
theorem dX7_rests_60 : decode cX7_rests 60 = .ok (.if_icmp .gt 7, 3) := by decide +kernel
theorem dX7_rests_63 : decode cX7_rests 63 = .ok (.iconst 1, 1) := by decide +kernel
theorem dX7_rests_64 : decode cX7_rests 64 = .ok (.goto 4, 3) := by decide +kernel
theorem dX7_rests_67 : decode cX7_rests 67 = .ok (.iconst 0, 1) := by decide +kernel
theorem dX7_rests_68 : decode cX7_rests 68 = .ok (.istore_n 3, 1) := by decide +kernel
theorem dX7_rests_69 : decode cX7_rests 69 = .ok (.iinc 4 1, 3) := by decide +kernel
theorem dX7_rests_72 : decode cX7_rests 72 = .ok (.goto (-67), 3) := by decide +kernel
theorem dX7_rests_75 : decode cX7_rests 75 = .ok (.iload_n 3, 1) := by decide +kernel
theorem dX7_rests_76 : decode cX7_rests 76 = .ok (.ireturn, 1) := by decide +kernel
theorem dX7_hands_0 : decode cX7_hands 0 = .ok (.aload_n 0, 1) := by decide +kernel
theorem dX7_hands_1 : decode cX7_hands 1 = .ok (.iload_n 1, 1) := by decide +kernel
theorem dX7_hands_2 : decode cX7_hands 2 = .ok (.invokevirtual 193, 3) := by decide +kernel
theorem dX7_hands_5 : decode cX7_hands 5 = .ok (.ifCond .eq 21, 3) := by decide +kernel
theorem dX7_hands_8 : decode cX7_hands 8 = .ok (.aload_n 0, 1) := by decide +kernel
theorem dX7_hands_9 : decode cX7_hands 9 = .ok (.iload_n 2, 1) := by decide +kernel
theorem dX7_hands_10 : decode cX7_hands 10 = .ok (.invokevirtual 193, 3) := by decide +kernel
theorem dX7_hands_13 : decode cX7_hands 13 = .ok (.ifCond .eq 13, 3) := by decide +kernel
theorem dX7_hands_16 : decode cX7_hands 16 = .ok (.iload_n 1, 1) := by decide +kernel
theorem dX7_hands_17 : decode cX7_hands 17 = .ok (.iload_n 2, 1) := by decide +kernel
theorem dX7_hands_18 : decode cX7_hands 18 = .ok (.if_icmp .eq 8, 3) := by decide +kernel
theorem dX7_hands_21 : decode cX7_hands 21 = .ok (.iload_n 3, 1) := by decide +kernel
theorem dX7_hands_22 : decode cX7_hands 22 = .ok (.iconst (-1), 1) := by decide +kernel
theorem dX7_hands_23 : decode cX7_hands 23 = .ok (.if_icmp .ge 8, 3) := by decide +kernel
theorem dX7_hands_26 : decode cX7_hands 26 = .ok (.aload_n 0, 1) := by decide +kernel
theorem dX7_hands_27 : decode cX7_hands 27 = .ok (.invokevirtual 216, 3) := by decide +kernel
theorem dX7_hands_30 : decode cX7_hands 30 = .ok (.ireturn, 1) := by decide +kernel
theorem dX7_hands_31 : decode cX7_hands 31 = .ok (.aload_n 0, 1) := by decide +kernel
theorem dX7_hands_32 : decode cX7_hands 32 = .ok (.iload_n 1, 1) := by decide +kernel
theorem dX7_hands_33 : decode cX7_hands 33 = .ok (.invokevirtual 213, 3) := by decide +kernel
theorem dX7_hands_36 : decode cX7_hands 36 = .ok (.istore 4, 2) := by decide +kernel
theorem dX7_hands_38 : decode cX7_hands 38 = .ok (.aload_n 0, 1) := by decide +kernel
theorem dX7_hands_39 : decode cX7_hands 39 = .ok (.iload_n 2, 1) := by decide +kernel
theorem dX7_hands_40 : decode cX7_hands 40 = .ok (.invokevirtual 213, 3) := by decide +kernel
theorem dX7_hands_43 : decode cX7_hands 43 = .ok (.istore 5, 2) := by decide +kernel
theorem dX7_hands_45 : decode cX7_hands 45 = .ok (.aload_n 0, 1) := by decide +kernel
theorem dX7_hands_46 : decode cX7_hands 46 = .ok (.invokevirtual 222, 3) := by decide +kernel
theorem dX7_hands_49 : decode cX7_hands 49 = .ok (.iconst 0, 1) := by decide +kernel
theorem dX7_hands_50 : decode cX7_hands 50 = .ok (.istore 6, 2) := by decide +kernel
theorem dX7_hands_52 : decode cX7_hands 52 = .ok (.iload 6, 2) := by decide +kernel
theorem dX7_hands_54 : decode cX7_hands 54 = .ok (.iconst 5, 1) := by decide +kernel
theorem dX7_hands_55 : decode cX7_hands 55 = .ok (.if_icmp .ge 104, 3) := by decide +kernel
theorem dX7_hands_58 : decode cX7_hands 58 = .ok (.iconst 0, 1) := by decide +kernel
theorem dX7_hands_59 : decode cX7_hands 59 = .ok (.istore 7, 2) := by decide +kernel
theorem dX7_hands_61 : decode cX7_hands 61 = .ok (.iload 7, 2) := by decide +kernel
theorem dX7_hands_63 : decode cX7_hands 63 = .ok (.iconst 5, 1) := by decide +kernel
theorem dX7_hands_64 : decode cX7_hands 64 = .ok (.if_icmp .ge 89, 3) := by decide +kernel
theorem dX7_hands_67 : decode cX7_hands 67 = .ok (.aload_n 0, 1) := by decide +kernel
theorem dX7_hands_68 : decode cX7_hands 68 = .ok (.iload 6, 2) := by decide +kernel
theorem dX7_hands_70 : decode cX7_hands 70 = .ok (.invokevirtual 184, 3) := by decide +kernel
theorem dX7_hands_73 : decode cX7_hands 73 = .ok (.aload_n 0, 1) := by decide +kernel
theorem dX7_hands_74 : decode cX7_hands 74 = .ok (.iload 7, 2) := by decide +kernel
theorem dX7_hands_76 : decode cX7_hands 76 = .ok (.invokevirtual 184, 3) := by decide +kernel
theorem dX7_hands_79 : decode cX7_hands 79 = .ok (.aload_n 0, 1) := by decide +kernel
theorem dX7_hands_80 : decode cX7_hands 80 = .ok (.getfield 29, 3) := by decide +kernel
theorem dX7_hands_83 : decode cX7_hands 83 = .ok (.iconst 5, 1) := by decide +kernel
theorem dX7_hands_84 : decode cX7_hands 84 = .ok (.iload 6, 2) := by decide +kernel
theorem dX7_hands_86 : decode cX7_hands 86 = .ok (.imul, 1) := by decide +kernel
theorem dX7_hands_87 : decode cX7_hands 87 = .ok (.iload 7, 2) := by decide +kernel
theorem dX7_hands_89 : decode cX7_hands 89 = .ok (.iadd, 1) := by decide +kernel
theorem dX7_hands_90 : decode cX7_hands 90 = .ok (.aload_n 0, 1) := by decide +kernel
theorem dX7_hands_91 : decode cX7_hands 91 = .ok (.iload_n 1, 1) := by decide +kernel
theorem dX7_hands_92 : decode cX7_hands 92 = .ok (.invokevirtual 213, 3) := by decide +kernel
theorem dX7_hands_95 : decode cX7_hands 95 = .ok (.iload 4, 2) := by decide +kernel
theorem dX7_hands_97 : decode cX7_hands 97 = .ok (.isub, 1) := by decide +kernel
theorem dX7_hands_98 : decode cX7_hands 98 = .ok (.iload 6, 2) := by decide +kernel
theorem dX7_hands_100 : decode cX7_hands 100 = .ok (.iconst 4, 1) := by decide +kernel
theorem dX7_hands_101 : decode cX7_hands 101 = .ok (.if_icmp .ne 7, 3) := by decide +kernel
theorem dX7_hands_104 : decode cX7_hands 104 = .ok (.iconst 0, 1) := by decide +kernel
theorem dX7_hands_105 : decode cX7_hands 105 = .ok (.goto 4, 3) := by decide +kernel
theorem dX7_hands_108 : decode cX7_hands 108 = .ok (.iconst 2, 1) := by decide +kernel
theorem dX7_hands_109 : decode cX7_hands 109 = .ok (.isub, 1) := by decide +kernel
theorem dX7_hands_110 : decode cX7_hands 110 = .ok (.iastore, 1) := by decide +kernel
theorem dX7_hands_111 : decode cX7_hands 111 = .ok (.aload_n 0, 1) := by decide +kernel
theorem dX7_hands_112 : decode cX7_hands 112 = .ok (.getfield 32, 3) := by decide +kernel
theorem dX7_hands_115 : decode cX7_hands 115 = .ok (.iconst 5, 1) := by decide +kernel
theorem dX7_hands_116 : decode cX7_hands 116 = .ok (.iload 6, 2) := by decide +kernel
theorem dX7_hands_118 : decode cX7_hands 118 = .ok (.imul, 1) := by decide +kernel
theorem dX7_hands_119 : decode cX7_hands 119 = .ok (.iload 7, 2) := by decide +kernel
theorem dX7_hands_121 : decode cX7_hands 121 = .ok (.iadd, 1) := by decide +kernel
theorem dX7_hands_122 : decode cX7_hands 122 = .ok (.aload_n 0, 1) := by decide +kernel
theorem dX7_hands_123 : decode cX7_hands 123 = .ok (.iload_n 2, 1) := by decide +kernel
theorem dX7_hands_124 : decode cX7_hands 124 = .ok (.invokevirtual 213, 3) := by decide +kernel
theorem dX7_hands_127 : decode cX7_hands 127 = .ok (.iload 5, 2) := by decide +kernel
theorem dX7_hands_129 : decode cX7_hands 129 = .ok (.isub, 1) := by decide +kernel
theorem dX7_hands_130 : decode cX7_hands 130 = .ok (.iload 7, 2) := by decide +kernel
theorem dX7_hands_132 : decode cX7_hands 132 = .ok (.iconst 4, 1) := by decide +kernel
theorem dX7_hands_133 : decode cX7_hands 133 = .ok (.if_icmp .ne 7, 3) := by decide +kernel
theorem dX7_hands_136 : decode cX7_hands 136 = .ok (.iconst 0, 1) := by decide +kernel
theorem dX7_hands_137 : decode cX7_hands 137 = .ok (.goto 4, 3) := by decide +kernel
theorem dX7_hands_140 : decode cX7_hands 140 = .ok (.iconst 2, 1) := by decide +kernel
theorem dX7_hands_141 : decode cX7_hands 141 = .ok (.isub, 1) := by decide +kernel
theorem dX7_hands_142 : decode cX7_hands 142 = .ok (.iastore, 1) := by decide +kernel
theorem dX7_hands_143 : decode cX7_hands 143 = .ok (.aload_n 0, 1) := by decide +kernel
theorem dX7_hands_144 : decode cX7_hands 144 = .ok (.invokevirtual 225, 3) := by decide +kernel
theorem dX7_hands_147 : decode cX7_hands 147 = .ok (.iinc 7 1, 3) := by decide +kernel
theorem dX7_hands_150 : decode cX7_hands 150 = .ok (.goto (-89), 3) := by decide +kernel
theorem dX7_hands_153 : decode cX7_hands 153 = .ok (.iinc 6 1, 3) := by decide +kernel
theorem dX7_hands_156 : decode cX7_hands 156 = .ok (.goto (-104), 3) := by decide +kernel
theorem dX7_hands_159 : decode cX7_hands 159 = .ok (.iconst 0, 1) := by decide +kernel
theorem dX7_hands_160 : decode cX7_hands 160 = .ok (.istore 6, 2) := by decide +kernel
theorem dX7_hands_162 : decode cX7_hands 162 = .ok (.iconst 0, 1) := by decide +kernel
theorem dX7_hands_163 : decode cX7_hands 163 = .ok (.istore 7, 2) := by decide +kernel
theorem dX7_hands_165 : decode cX7_hands 165 = .ok (.iconst 0, 1) := by decide +kernel
theorem dX7_hands_166 : decode cX7_hands 166 = .ok (.istore 8, 2) := by decide +kernel
theorem dX7_hands_168 : decode cX7_hands 168 = .ok (.iload 8, 2) := by decide +kernel
theorem dX7_hands_170 : decode cX7_hands 170 = .ok (.iconst 5, 1) := by decide +kernel
theorem dX7_hands_171 : decode cX7_hands 171 = .ok (.if_icmp .ge 59, 3) := by decide +kernel
theorem dX7_hands_174 : decode cX7_hands 174 = .ok (.iconst 0, 1) := by decide +kernel
theorem dX7_hands_175 : decode cX7_hands 175 = .ok (.istore 9, 2) := by decide +kernel
theorem dX7_hands_177 : decode cX7_hands 177 = .ok (.iload 9, 2) := by decide +kernel
theorem dX7_hands_179 : decode cX7_hands 179 = .ok (.iconst 5, 1) := by decide +kernel
theorem dX7_hands_180 : decode cX7_hands 180 = .ok (.if_icmp .ge 44, 3) := by decide +kernel
theorem dX7_hands_183 : decode cX7_hands 183 = .ok (.aload_n 0, 1) := by decide +kernel
theorem dX7_hands_184 : decode cX7_hands 184 = .ok (.iload 8, 2) := by decide +kernel
theorem dX7_hands_186 : decode cX7_hands 186 = .ok (.iload 9, 2) := by decide +kernel
theorem dX7_hands_188 : decode cX7_hands 188 = .ok (.invokevirtual 270, 3) := by decide +kernel
theorem dX7_hands_191 : decode cX7_hands 191 = .ok (.ifCond .eq 27, 3) := by decide +kernel
theorem dX7_hands_194 : decode cX7_hands 194 = .ok (.iload 6, 2) := by decide +kernel
theorem dX7_hands_196 : decode cX7_hands 196 = .ok (.iload_n 3, 1) := by decide +kernel
theorem dX7_hands_197 : decode cX7_hands 197 = .ok (.if_icmp .ne 14, 3) := by decide +kernel
theorem dX7_hands_200 : decode cX7_hands 200 = .ok (.bipush 10, 2) := by decide +kernel
theorem dX7_hands_202 : decode cX7_hands 202 = .ok (.iload 8, 2) := by decide +kernel
theorem dX7_hands_204 : decode cX7_hands 204 = .ok (.imul, 1) := by decide +kernel
theorem dX7_hands_205 : decode cX7_hands 205 = .ok (.iload 9, 2) := by decide +kernel
theorem dX7_hands_207 : decode cX7_hands 207 = .ok (.iadd, 1) := by decide +kernel
theorem dX7_hands_208 : decode cX7_hands 208 = .ok (.goto 5, 3) := by decide +kernel
theorem dX7_hands_211 : decode cX7_hands 211 = .ok (.iload 7, 2) := by decide +kernel
theorem dX7_hands_213 : decode cX7_hands 213 = .ok (.istore 7, 2) := by decide +kernel
theorem dX7_hands_215 : decode cX7_hands 215 = .ok (.iinc 6 1, 3) := by decide +kernel
theorem dX7_hands_218 : decode cX7_hands 218 = .ok (.iinc 9 1, 3) := by decide +kernel
theorem dX7_hands_221 : decode cX7_hands 221 = .ok (.goto (-44), 3) := by decide +kernel
theorem dX7_hands_224 : decode cX7_hands 224 = .ok (.iinc 8 1, 3) := by decide +kernel
theorem dX7_hands_227 : decode cX7_hands 227 = .ok (.goto (-59), 3) := by decide +kernel
theorem dX7_hands_230 : decode cX7_hands 230 = .ok (.aload_n 0, 1) := by decide +kernel
theorem dX7_hands_231 : decode cX7_hands 231 = .ok (.iload 6, 2) := by decide +kernel
theorem dX7_hands_233 : decode cX7_hands 233 = .ok (.iload_n 3, 1) := by decide +kernel
theorem dX7_hands_234 : decode cX7_hands 234 = .ok (.iload 7, 2) := by decide +kernel
theorem dX7_hands_236 : decode cX7_hands 236 = .ok (.invokevirtual 219, 3) := by decide +kernel
theorem dX7_hands_239 : decode cX7_hands 239 = .ok (.ireturn, 1) := by decide +kernel
theorem dX7_fraction_0 : decode cX7_fraction 0 = .ok (.lload_n 1, 1) := by decide +kernel
theorem dX7_fraction_1 : decode cX7_fraction 1 = .ok (.lstore 5, 2) := by decide +kernel
theorem dX7_fraction_3 : decode cX7_fraction 3 = .ok (.lload_n 3, 1) := by decide +kernel
theorem dX7_fraction_4 : decode cX7_fraction 4 = .ok (.lstore 7, 2) := by decide +kernel
theorem dX7_fraction_6 : decode cX7_fraction 6 = .ok (.lload 7, 2) := by decide +kernel
theorem dX7_fraction_8 : decode cX7_fraction 8 = .ok (.lconst 0, 1) := by decide +kernel
theorem dX7_fraction_9 : decode cX7_fraction 9 = .ok (.lcmp, 1) := by decide +kernel
theorem dX7_fraction_10 : decode cX7_fraction 10 = .ok (.ifCond .eq 21, 3) := by decide +kernel
theorem dX7_fraction_13 : decode cX7_fraction 13 = .ok (.lload 5, 2) := by decide +kernel
theorem dX7_fraction_15 : decode cX7_fraction 15 = .ok (.lload 7, 2) := by decide +kernel
theorem dX7_fraction_17 : decode cX7_fraction 17 = .ok (.lrem, 1) := by decide +kernel
theorem dX7_fraction_18 : decode cX7_fraction 18 = .ok (.lstore 9, 2) := by decide +kernel
theorem dX7_fraction_20 : decode cX7_fraction 20 = .ok (.lload 7, 2) := by decide +kernel
theorem dX7_fraction_22 : decode cX7_fraction 22 = .ok (.lstore 5, 2) := by decide +kernel
theorem dX7_fraction_24 : decode cX7_fraction 24 = .ok (.lload 9, 2) := by decide +kernel
theorem dX7_fraction_26 : decode cX7_fraction 26 = .ok (.lstore 7, 2) := by decide +kernel
theorem dX7_fraction_28 : decode cX7_fraction 28 = .ok (.goto (-22), 3) := by decide +kernel
theorem dX7_fraction_31 : decode cX7_fraction 31 = .ok (.aload_n 0, 1) := by decide +kernel
theorem dX7_fraction_32 : decode cX7_fraction 32 = .ok (.lload_n 1, 1) := by decide +kernel
theorem dX7_fraction_33 : decode cX7_fraction 33 = .ok (.lload 5, 2) := by decide +kernel
theorem dX7_fraction_35 : decode cX7_fraction 35 = .ok (.ldiv, 1) := by decide +kernel
theorem dX7_fraction_36 : decode cX7_fraction 36 = .ok (.putfield 274, 3) := by decide +kernel
theorem dX7_fraction_39 : decode cX7_fraction 39 = .ok (.aload_n 0, 1) := by decide +kernel
theorem dX7_fraction_40 : decode cX7_fraction 40 = .ok (.lload_n 3, 1) := by decide +kernel
theorem dX7_fraction_41 : decode cX7_fraction 41 = .ok (.lload 5, 2) := by decide +kernel
theorem dX7_fraction_43 : decode cX7_fraction 43 = .ok (.ldiv, 1) := by decide +kernel
theorem dX7_fraction_44 : decode cX7_fraction 44 = .ok (.putfield 13, 3) := by decide +kernel
theorem dX7_fraction_47 : decode cX7_fraction 47 = .ok (.iconst 1, 1) := by decide +kernel
theorem dX7_fraction_48 : decode cX7_fraction 48 = .ok (.ireturn, 1) := by decide +kernel
theorem dX7_slack_0 : decode cX7_slack 0 = .ok (.iload_n 1, 1) := by decide +kernel
theorem dX7_slack_1 : decode cX7_slack 1 = .ok (.i2l, 1) := by decide +kernel
theorem dX7_slack_2 : decode cX7_slack 2 = .ok (.lconst 0, 1) := by decide +kernel
theorem dX7_slack_3 : decode cX7_slack 3 = .ok (.ldc2_w 245, 3) := by decide +kernel
theorem dX7_slack_6 : decode cX7_slack 6 = .ok (.invokestatic 52, 3) := by decide +kernel
theorem dX7_slack_9 : decode cX7_slack 9 = .ok (.ifCond .eq 15, 3) := by decide +kernel
theorem dX7_slack_12 : decode cX7_slack 12 = .ok (.iload_n 2, 1) := by decide +kernel
theorem dX7_slack_13 : decode cX7_slack 13 = .ok (.i2l, 1) := by decide +kernel
theorem dX7_slack_14 : decode cX7_slack 14 = .ok (.lconst 0, 1) := by decide +kernel
theorem dX7_slack_15 : decode cX7_slack 15 = .ok (.ldc2_w 277, 3) := by decide +kernel
theorem dX7_slack_18 : decode cX7_slack 18 = .ok (.invokestatic 52, 3) := by decide +kernel
theorem dX7_slack_21 : decode cX7_slack 21 = .ok (.ifCond .ne 8, 3) := by decide +kernel
theorem dX7_slack_24 : decode cX7_slack 24 = .ok (.aload_n 0, 1) := by decide +kernel
theorem dX7_slack_25 : decode cX7_slack 25 = .ok (.invokevirtual 84, 3) := by decide +kernel
theorem dX7_slack_28 : decode cX7_slack 28 = .ok (.ireturn, 1) := by decide +kernel
theorem dX7_slack_29 : decode cX7_slack 29 = .ok (.lconst 0, 1) := by decide +kernel
theorem dX7_slack_30 : decode cX7_slack 30 = .ok (.lstore_n 3, 1) := by decide +kernel
theorem dX7_slack_31 : decode cX7_slack 31 = .ok (.lconst 0, 1) := by decide +kernel
theorem dX7_slack_32 : decode cX7_slack 32 = .ok (.lstore 5, 2) := by decide +kernel
theorem dX7_slack_34 : decode cX7_slack 34 = .ok (.aload_n 0, 1) := by decide +kernel
theorem dX7_slack_35 : decode cX7_slack 35 = .ok (.invokevirtual 222, 3) := by decide +kernel
theorem dX7_slack_38 : decode cX7_slack 38 = .ok (.iconst 0, 1) := by decide +kernel
theorem dX7_slack_39 : decode cX7_slack 39 = .ok (.istore 7, 2) := by decide +kernel
theorem dX7_slack_41 : decode cX7_slack 41 = .ok (.iload 7, 2) := by decide +kernel
theorem dX7_slack_43 : decode cX7_slack 43 = .ok (.iconst 1, 1) := by decide +kernel
theorem dX7_slack_44 : decode cX7_slack 44 = .ok (.iload_n 1, 1) := by decide +kernel
theorem dX7_slack_45 : decode cX7_slack 45 = .ok (.ishl, 1) := by decide +kernel
theorem dX7_slack_46 : decode cX7_slack 46 = .ok (.if_icmp .ge 167, 3) := by decide +kernel
theorem dX7_slack_49 : decode cX7_slack 49 = .ok (.lconst 1, 1) := by decide +kernel
theorem dX7_slack_50 : decode cX7_slack 50 = .ok (.lstore 8, 2) := by decide +kernel
theorem dX7_slack_52 : decode cX7_slack 52 = .ok (.iconst 0, 1) := by decide +kernel
theorem dX7_slack_53 : decode cX7_slack 53 = .ok (.istore 10, 2) := by decide +kernel
theorem dX7_slack_55 : decode cX7_slack 55 = .ok (.iload 10, 2) := by decide +kernel
theorem dX7_slack_57 : decode cX7_slack 57 = .ok (.iload_n 1, 1) := by decide +kernel
theorem dX7_slack_58 : decode cX7_slack 58 = .ok (.if_icmp .ge 72, 3) := by decide +kernel
theorem dX7_slack_61 : decode cX7_slack 61 = .ok (.iload 7, 2) := by decide +kernel
theorem dX7_slack_63 : decode cX7_slack 63 = .ok (.iload 10, 2) := by decide +kernel
theorem dX7_slack_65 : decode cX7_slack 65 = .ok (.ishr, 1) := by decide +kernel
theorem dX7_slack_66 : decode cX7_slack 66 = .ok (.iconst 1, 1) := by decide +kernel
theorem dX7_slack_67 : decode cX7_slack 67 = .ok (.iand, 1) := by decide +kernel
theorem dX7_slack_68 : decode cX7_slack 68 = .ok (.iconst 1, 1) := by decide +kernel
theorem dX7_slack_69 : decode cX7_slack 69 = .ok (.if_icmp .ne 7, 3) := by decide +kernel
theorem dX7_slack_72 : decode cX7_slack 72 = .ok (.iconst 1, 1) := by decide +kernel
theorem dX7_slack_73 : decode cX7_slack 73 = .ok (.goto 4, 3) := by decide +kernel
theorem dX7_slack_76 : decode cX7_slack 76 = .ok (.iconst 0, 1) := by decide +kernel
theorem dX7_slack_77 : decode cX7_slack 77 = .ok (.istore 11, 2) := by decide +kernel
theorem dX7_slack_79 : decode cX7_slack 79 = .ok (.lload 8, 2) := by decide +kernel
theorem dX7_slack_81 : decode cX7_slack 81 = .ok (.iload 11, 2) := by decide +kernel
theorem dX7_slack_83 : decode cX7_slack 83 = .ok (.ifCond .eq 8, 3) := by decide +kernel
theorem dX7_slack_86 : decode cX7_slack 86 = .ok (.iload_n 2, 1) := by decide +kernel
theorem dX7_slack_87 : decode cX7_slack 87 = .ok (.i2l, 1) := by decide +kernel
theorem dX7_slack_88 : decode cX7_slack 88 = .ok (.goto 8, 3) := by decide +kernel
theorem dX7_slack_91 : decode cX7_slack 91 = .ok (.bipush 10, 2) := by decide +kernel
theorem dX7_slack_93 : decode cX7_slack 93 = .ok (.iload_n 2, 1) := by decide +kernel
theorem dX7_slack_94 : decode cX7_slack 94 = .ok (.isub, 1) := by decide +kernel
theorem dX7_slack_95 : decode cX7_slack 95 = .ok (.i2l, 1) := by decide +kernel
theorem dX7_slack_96 : decode cX7_slack 96 = .ok (.lmul, 1) := by decide +kernel
theorem dX7_slack_97 : decode cX7_slack 97 = .ok (.lstore 8, 2) := by decide +kernel
theorem dX7_slack_99 : decode cX7_slack 99 = .ok (.aload_n 0, 1) := by decide +kernel
theorem dX7_slack_100 : decode cX7_slack 100 = .ok (.iload 11, 2) := by decide +kernel
theorem dX7_slack_102 : decode cX7_slack 102 = .ok (.ifCond .eq 7, 3) := by decide +kernel
theorem dX7_slack_105 : decode cX7_slack 105 = .ok (.iconst 4, 1) := by decide +kernel
theorem dX7_slack_106 : decode cX7_slack 106 = .ok (.goto 15, 3) := by decide +kernel
theorem dX7_slack_109 : decode cX7_slack 109 = .ok (.aload_n 0, 1) := by decide +kernel
theorem dX7_slack_110 : decode cX7_slack 110 = .ok (.getfield 7, 3) := by decide +kernel
theorem dX7_slack_113 : decode cX7_slack 113 = .ok (.bipush 54, 2) := by decide +kernel
theorem dX7_slack_115 : decode cX7_slack 115 = .ok (.iconst 2, 1) := by decide +kernel
theorem dX7_slack_116 : decode cX7_slack 116 = .ok (.iload 10, 2) := by decide +kernel
theorem dX7_slack_118 : decode cX7_slack 118 = .ok (.imul, 1) := by decide +kernel
theorem dX7_slack_119 : decode cX7_slack 119 = .ok (.iadd, 1) := by decide +kernel
theorem dX7_slack_120 : decode cX7_slack 120 = .ok (.iaload, 1) := by decide +kernel
theorem dX7_slack_121 : decode cX7_slack 121 = .ok (.invokevirtual 184, 3) := by decide +kernel
theorem dX7_slack_124 : decode cX7_slack 124 = .ok (.iinc 10 1, 3) := by decide +kernel
theorem dX7_slack_127 : decode cX7_slack 127 = .ok (.goto (-72), 3) := by decide +kernel
theorem dX7_slack_130 : decode cX7_slack 130 = .ok (.iload_n 1, 1) := by decide +kernel
theorem dX7_slack_131 : decode cX7_slack 131 = .ok (.ifCond .eq 44, 3) := by decide +kernel
theorem dX7_slack_134 : decode cX7_slack 134 = .ok (.aload_n 0, 1) := by decide +kernel
theorem dX7_slack_135 : decode cX7_slack 135 = .ok (.aload_n 0, 1) := by decide +kernel
theorem dX7_slack_136 : decode cX7_slack 136 = .ok (.getfield 7, 3) := by decide +kernel
theorem dX7_slack_139 : decode cX7_slack 139 = .ok (.bipush 53, 2) := by decide +kernel
theorem dX7_slack_141 : decode cX7_slack 141 = .ok (.iaload, 1) := by decide +kernel
theorem dX7_slack_142 : decode cX7_slack 142 = .ok (.invokevirtual 193, 3) := by decide +kernel
theorem dX7_slack_145 : decode cX7_slack 145 = .ok (.ifCond .eq 34, 3) := by decide +kernel
theorem dX7_slack_148 : decode cX7_slack 148 = .ok (.aload_n 0, 1) := by decide +kernel
theorem dX7_slack_149 : decode cX7_slack 149 = .ok (.aload_n 0, 1) := by decide +kernel
theorem dX7_slack_150 : decode cX7_slack 150 = .ok (.getfield 7, 3) := by decide +kernel
theorem dX7_slack_153 : decode cX7_slack 153 = .ok (.bipush 53, 2) := by decide +kernel
theorem dX7_slack_155 : decode cX7_slack 155 = .ok (.iaload, 1) := by decide +kernel
theorem dX7_slack_156 : decode cX7_slack 156 = .ok (.invokevirtual 213, 3) := by decide +kernel
theorem dX7_slack_159 : decode cX7_slack 159 = .ok (.aload_n 0, 1) := by decide +kernel
theorem dX7_slack_160 : decode cX7_slack 160 = .ok (.getfield 7, 3) := by decide +kernel
theorem dX7_slack_163 : decode cX7_slack 163 = .ok (.bipush 54, 2) := by decide +kernel
theorem dX7_slack_165 : decode cX7_slack 165 = .ok (.iconst 2, 1) := by decide +kernel
theorem dX7_slack_166 : decode cX7_slack 166 = .ok (.iload_n 1, 1) := by decide +kernel
theorem dX7_slack_167 : decode cX7_slack 167 = .ok (.imul, 1) := by decide +kernel
theorem dX7_slack_168 : decode cX7_slack 168 = .ok (.iadd, 1) := by decide +kernel
theorem dX7_slack_169 : decode cX7_slack 169 = .ok (.iconst 1, 1) := by decide +kernel
theorem dX7_slack_170 : decode cX7_slack 170 = .ok (.isub, 1) := by decide +kernel
theorem dX7_slack_171 : decode cX7_slack 171 = .ok (.iaload, 1) := by decide +kernel
theorem dX7_slack_172 : decode cX7_slack 172 = .ok (.if_icmp .ne 7, 3) := by decide +kernel
theorem dX7_slack_175 : decode cX7_slack 175 = .ok (.iconst 1, 1) := by decide +kernel
theorem dX7_slack_176 : decode cX7_slack 176 = .ok (.goto 4, 3) := by decide +kernel
theorem dX7_slack_179 : decode cX7_slack 179 = .ok (.iconst 0, 1) := by decide +kernel
theorem dX7_slack_180 : decode cX7_slack 180 = .ok (.istore 10, 2) := by decide +kernel
theorem dX7_slack_182 : decode cX7_slack 182 = .ok (.lload 5, 2) := by decide +kernel
theorem dX7_slack_184 : decode cX7_slack 184 = .ok (.lload 8, 2) := by decide +kernel
theorem dX7_slack_186 : decode cX7_slack 186 = .ok (.ladd, 1) := by decide +kernel
theorem dX7_slack_187 : decode cX7_slack 187 = .ok (.lstore 5, 2) := by decide +kernel
theorem dX7_slack_189 : decode cX7_slack 189 = .ok (.lload_n 3, 1) := by decide +kernel
theorem dX7_slack_190 : decode cX7_slack 190 = .ok (.iload 10, 2) := by decide +kernel
theorem dX7_slack_192 : decode cX7_slack 192 = .ok (.ifCond .eq 8, 3) := by decide +kernel
theorem dX7_slack_195 : decode cX7_slack 195 = .ok (.lload 8, 2) := by decide +kernel
theorem dX7_slack_197 : decode cX7_slack 197 = .ok (.goto 4, 3) := by decide +kernel
theorem dX7_slack_200 : decode cX7_slack 200 = .ok (.lconst 0, 1) := by decide +kernel
theorem dX7_slack_201 : decode cX7_slack 201 = .ok (.ladd, 1) := by decide +kernel
theorem dX7_slack_202 : decode cX7_slack 202 = .ok (.lstore_n 3, 1) := by decide +kernel
theorem dX7_slack_203 : decode cX7_slack 203 = .ok (.aload_n 0, 1) := by decide +kernel
theorem dX7_slack_204 : decode cX7_slack 204 = .ok (.invokevirtual 225, 3) := by decide +kernel
theorem dX7_slack_207 : decode cX7_slack 207 = .ok (.iinc 7 1, 3) := by decide +kernel
theorem dX7_slack_210 : decode cX7_slack 210 = .ok (.goto (-169), 3) := by decide +kernel
theorem dX7_slack_213 : decode cX7_slack 213 = .ok (.aload_n 0, 1) := by decide +kernel
theorem dX7_slack_214 : decode cX7_slack 214 = .ok (.lload_n 3, 1) := by decide +kernel
theorem dX7_slack_215 : decode cX7_slack 215 = .ok (.lload 5, 2) := by decide +kernel
theorem dX7_slack_217 : decode cX7_slack 217 = .ok (.invokevirtual 279, 3) := by decide +kernel
theorem dX7_slack_220 : decode cX7_slack 220 = .ok (.ireturn, 1) := by decide +kernel
theorem dX7_nights_0 : decode cX7_nights 0 = .ok (.iload_n 1, 1) := by decide +kernel
theorem dX7_nights_1 : decode cX7_nights 1 = .ok (.i2l, 1) := by decide +kernel
theorem dX7_nights_2 : decode cX7_nights 2 = .ok (.lconst 0, 1) := by decide +kernel
theorem dX7_nights_3 : decode cX7_nights 3 = .ok (.ldc2_w 283, 3) := by decide +kernel
theorem dX7_nights_6 : decode cX7_nights 6 = .ok (.invokestatic 52, 3) := by decide +kernel
theorem dX7_nights_9 : decode cX7_nights 9 = .ok (.ifCond .eq 15, 3) := by decide +kernel
theorem dX7_nights_12 : decode cX7_nights 12 = .ok (.iload_n 2, 1) := by decide +kernel
theorem dX7_nights_13 : decode cX7_nights 13 = .ok (.i2l, 1) := by decide +kernel
theorem dX7_nights_14 : decode cX7_nights 14 = .ok (.lconst 0, 1) := by decide +kernel
theorem dX7_nights_15 : decode cX7_nights 15 = .ok (.ldc2_w 237, 3) := by decide +kernel
theorem dX7_nights_18 : decode cX7_nights 18 = .ok (.invokestatic 52, 3) := by decide +kernel
theorem dX7_nights_21 : decode cX7_nights 21 = .ok (.ifCond .ne 8, 3) := by decide +kernel
theorem dX7_nights_24 : decode cX7_nights 24 = .ok (.aload_n 0, 1) := by decide +kernel
theorem dX7_nights_25 : decode cX7_nights 25 = .ok (.invokevirtual 84, 3) := by decide +kernel
theorem dX7_nights_28 : decode cX7_nights 28 = .ok (.ireturn, 1) := by decide +kernel
theorem dX7_nights_29 : decode cX7_nights 29 = .ok (.aload_n 0, 1) := by decide +kernel
theorem dX7_nights_30 : decode cX7_nights 30 = .ok (.invokevirtual 222, 3) := by decide +kernel
theorem dX7_nights_33 : decode cX7_nights 33 = .ok (.iload_n 1, 1) := by decide +kernel
theorem dX7_nights_34 : decode cX7_nights 34 = .ok (.i2l, 1) := by decide +kernel
theorem dX7_nights_35 : decode cX7_nights 35 = .ok (.lstore_n 3, 1) := by decide +kernel
theorem dX7_nights_36 : decode cX7_nights 36 = .ok (.iconst 0, 1) := by decide +kernel
theorem dX7_nights_37 : decode cX7_nights 37 = .ok (.istore 5, 2) := by decide +kernel
theorem dX7_nights_39 : decode cX7_nights 39 = .ok (.iload 5, 2) := by decide +kernel
theorem dX7_nights_41 : decode cX7_nights 41 = .ok (.iload_n 2, 1) := by decide +kernel
theorem dX7_nights_42 : decode cX7_nights 42 = .ok (.if_icmp .ge 37, 3) := by decide +kernel
theorem dX7_nights_45 : decode cX7_nights 45 = .ok (.lload_n 3, 1) := by decide +kernel
theorem dX7_nights_46 : decode cX7_nights 46 = .ok (.ldc2_w 285, 3) := by decide +kernel
theorem dX7_nights_49 : decode cX7_nights 49 = .ok (.lmul, 1) := by decide +kernel
theorem dX7_nights_50 : decode cX7_nights 50 = .ok (.ldc2_w 287, 3) := by decide +kernel
theorem dX7_nights_53 : decode cX7_nights 53 = .ok (.ladd, 1) := by decide +kernel
theorem dX7_nights_54 : decode cX7_nights 54 = .ok (.ldc2_w 289, 3) := by decide +kernel
theorem dX7_nights_57 : decode cX7_nights 57 = .ok (.lrem, 1) := by decide +kernel
theorem dX7_nights_58 : decode cX7_nights 58 = .ok (.lstore_n 3, 1) := by decide +kernel
theorem dX7_nights_59 : decode cX7_nights 59 = .ok (.aload_n 0, 1) := by decide +kernel
theorem dX7_nights_60 : decode cX7_nights 60 = .ok (.lload_n 3, 1) := by decide +kernel
theorem dX7_nights_61 : decode cX7_nights 61 = .ok (.ldc2_w 291, 3) := by decide +kernel
theorem dX7_nights_64 : decode cX7_nights 64 = .ok (.ldiv, 1) := by decide +kernel
theorem dX7_nights_65 : decode cX7_nights 65 = .ok (.ldc2_w 88, 3) := by decide +kernel
theorem dX7_nights_68 : decode cX7_nights 68 = .ok (.lrem, 1) := by decide +kernel
theorem dX7_nights_69 : decode cX7_nights 69 = .ok (.l2i, 1) := by decide +kernel
theorem dX7_nights_70 : decode cX7_nights 70 = .ok (.invokevirtual 184, 3) := by decide +kernel
theorem dX7_nights_73 : decode cX7_nights 73 = .ok (.iinc 5 1, 3) := by decide +kernel
theorem dX7_nights_76 : decode cX7_nights 76 = .ok (.goto (-37), 3) := by decide +kernel
theorem dX7_nights_79 : decode cX7_nights 79 = .ok (.aload_n 0, 1) := by decide +kernel
theorem dX7_nights_80 : decode cX7_nights 80 = .ok (.invokevirtual 208, 3) := by decide +kernel
theorem dX7_nights_83 : decode cX7_nights 83 = .ok (.istore 5, 2) := by decide +kernel
theorem dX7_nights_85 : decode cX7_nights 85 = .ok (.aload_n 0, 1) := by decide +kernel
theorem dX7_nights_86 : decode cX7_nights 86 = .ok (.invokevirtual 225, 3) := by decide +kernel
theorem dX7_nights_89 : decode cX7_nights 89 = .ok (.iload 5, 2) := by decide +kernel
theorem dX7_nights_91 : decode cX7_nights 91 = .ok (.ireturn, 1) := by decide +kernel
theorem dX7_part_0 : decode cX7_part 0 = .ok (.iload_n 1, 1) := by decide +kernel
theorem dX7_part_1 : decode cX7_part 1 = .ok (.i2l, 1) := by decide +kernel
theorem dX7_part_2 : decode cX7_part 2 = .ok (.lconst 0, 1) := by decide +kernel
theorem dX7_part_3 : decode cX7_part 3 = .ok (.lconst 1, 1) := by decide +kernel
theorem dX7_part_4 : decode cX7_part 4 = .ok (.invokestatic 52, 3) := by decide +kernel
theorem dX7_part_7 : decode cX7_part 7 = .ok (.ifCond .ne 9, 3) := by decide +kernel
theorem dX7_part_10 : decode cX7_part 10 = .ok (.aload_n 0, 1) := by decide +kernel
theorem dX7_part_11 : decode cX7_part 11 = .ok (.invokevirtual 84, 3) := by decide +kernel
theorem dX7_part_14 : decode cX7_part 14 = .ok (.i2l, 1) := by decide +kernel
theorem dX7_part_15 : decode cX7_part 15 = .ok (.lreturn, 1) := by decide +kernel
theorem dX7_part_16 : decode cX7_part 16 = .ok (.iload_n 1, 1) := by decide +kernel
theorem dX7_part_17 : decode cX7_part 17 = .ok (.ifCond .ne 10, 3) := by decide +kernel
theorem dX7_part_20 : decode cX7_part 20 = .ok (.aload_n 0, 1) := by decide +kernel
theorem dX7_part_21 : decode cX7_part 21 = .ok (.getfield 274, 3) := by decide +kernel
theorem dX7_part_24 : decode cX7_part 24 = .ok (.goto 7, 3) := by decide +kernel
theorem dX7_part_27 : decode cX7_part 27 = .ok (.aload_n 0, 1) := by decide +kernel
theorem dX7_part_28 : decode cX7_part 28 = .ok (.getfield 13, 3) := by decide +kernel
theorem dX7_part_31 : decode cX7_part 31 = .ok (.lreturn, 1) := by decide +kernel
theorem dX7_image_0 : decode cX7_image 0 = .ok (.iload_n 1, 1) := by decide +kernel
theorem dX7_image_1 : decode cX7_image 1 = .ok (.i2l, 1) := by decide +kernel
theorem dX7_image_2 : decode cX7_image 2 = .ok (.lconst 0, 1) := by decide +kernel
theorem dX7_image_3 : decode cX7_image 3 = .ok (.lconst 1, 1) := by decide +kernel
theorem dX7_image_4 : decode cX7_image 4 = .ok (.invokestatic 52, 3) := by decide +kernel
theorem dX7_image_7 : decode cX7_image 7 = .ok (.ifCond .ne 8, 3) := by decide +kernel
theorem dX7_image_10 : decode cX7_image 10 = .ok (.aload_n 0, 1) := by decide +kernel
theorem dX7_image_11 : decode cX7_image 11 = .ok (.invokevirtual 84, 3) := by decide +kernel
theorem dX7_image_14 : decode cX7_image 14 = .ok (.ireturn, 1) := by decide +kernel
theorem dX7_image_15 : decode cX7_image 15 = .ok (.iconst 0, 1) := by decide +kernel
theorem dX7_image_16 : decode cX7_image 16 = .ok (.istore_n 2, 1) := by decide +kernel
theorem dX7_image_17 : decode cX7_image 17 = .ok (.iload_n 2, 1) := by decide +kernel
theorem dX7_image_18 : decode cX7_image 18 = .ok (.sipush 340, 3) := by decide +kernel
theorem dX7_image_21 : decode cX7_image 21 = .ok (.if_icmp .ge 27, 3) := by decide +kernel
theorem dX7_image_24 : decode cX7_image 24 = .ok (.aload_n 0, 1) := by decide +kernel
theorem dX7_image_25 : decode cX7_image 25 = .ok (.getfield 35, 3) := by decide +kernel
theorem dX7_image_28 : decode cX7_image 28 = .ok (.sipush 340, 3) := by decide +kernel
theorem dX7_image_31 : decode cX7_image 31 = .ok (.iload_n 1, 1) := by decide +kernel
theorem dX7_image_32 : decode cX7_image 32 = .ok (.imul, 1) := by decide +kernel
theorem dX7_image_33 : decode cX7_image 33 = .ok (.iload_n 2, 1) := by decide +kernel
theorem dX7_image_34 : decode cX7_image 34 = .ok (.iadd, 1) := by decide +kernel
theorem dX7_image_35 : decode cX7_image 35 = .ok (.aload_n 0, 1) := by decide +kernel
theorem dX7_image_36 : decode cX7_image 36 = .ok (.getfield 7, 3) := by decide +kernel
theorem dX7_image_39 : decode cX7_image 39 = .ok (.iload_n 2, 1) := by decide +kernel
theorem dX7_image_40 : decode cX7_image 40 = .ok (.iaload, 1) := by decide +kernel
theorem dX7_image_41 : decode cX7_image 41 = .ok (.iastore, 1) := by decide +kernel
theorem dX7_image_42 : decode cX7_image 42 = .ok (.iinc 2 1, 3) := by decide +kernel
theorem dX7_image_45 : decode cX7_image 45 = .ok (.goto (-28), 3) := by decide +kernel
theorem dX7_image_48 : decode cX7_image 48 = .ok (.aload_n 0, 1) := by decide +kernel
theorem dX7_image_49 : decode cX7_image 49 = .ok (.dup, 1) := by decide +kernel
theorem dX7_image_50 : decode cX7_image 50 = .ok (.getfield 293, 3) := by decide +kernel
theorem dX7_image_53 : decode cX7_image 53 = .ok (.iconst 1, 1) := by decide +kernel
theorem dX7_image_54 : decode cX7_image 54 = .ok (.iload_n 1, 1) := by decide +kernel
theorem dX7_image_55 : decode cX7_image 55 = .ok (.ishl, 1) := by decide +kernel
theorem dX7_image_56 : decode cX7_image 56 = .ok (.ior, 1) := by decide +kernel
theorem dX7_image_57 : decode cX7_image 57 = .ok (.putfield 293, 3) := by decide +kernel
theorem dX7_image_60 : decode cX7_image 60 = .ok (.iconst 1, 1) := by decide +kernel
theorem dX7_image_61 : decode cX7_image 61 = .ok (.ireturn, 1) := by decide +kernel
theorem dX7_from_0 : decode cX7_from 0 = .ok (.iload_n 1, 1) := by decide +kernel
theorem dX7_from_1 : decode cX7_from 1 = .ok (.i2l, 1) := by decide +kernel
theorem dX7_from_2 : decode cX7_from 2 = .ok (.lconst 0, 1) := by decide +kernel
theorem dX7_from_3 : decode cX7_from 3 = .ok (.lconst 1, 1) := by decide +kernel
theorem dX7_from_4 : decode cX7_from 4 = .ok (.invokestatic 52, 3) := by decide +kernel
theorem dX7_from_7 : decode cX7_from 7 = .ok (.ifCond .ne 8, 3) := by decide +kernel
theorem dX7_from_10 : decode cX7_from 10 = .ok (.aload_n 0, 1) := by decide +kernel
theorem dX7_from_11 : decode cX7_from 11 = .ok (.invokevirtual 84, 3) := by decide +kernel
theorem dX7_from_14 : decode cX7_from 14 = .ok (.ireturn, 1) := by decide +kernel
theorem dX7_from_15 : decode cX7_from 15 = .ok (.aload_n 0, 1) := by decide +kernel
theorem dX7_from_16 : decode cX7_from 16 = .ok (.getfield 293, 3) := by decide +kernel
theorem dX7_from_19 : decode cX7_from 19 = .ok (.iload_n 1, 1) := by decide +kernel
theorem dX7_from_20 : decode cX7_from 20 = .ok (.ishr, 1) := by decide +kernel
theorem dX7_from_21 : decode cX7_from 21 = .ok (.iconst 1, 1) := by decide +kernel
theorem dX7_from_22 : decode cX7_from 22 = .ok (.iand, 1) := by decide +kernel
theorem dX7_from_23 : decode cX7_from 23 = .ok (.ifCond .ne 8, 3) := by decide +kernel
theorem dX7_from_26 : decode cX7_from 26 = .ok (.aload_n 0, 1) := by decide +kernel
theorem dX7_from_27 : decode cX7_from 27 = .ok (.invokevirtual 202, 3) := by decide +kernel
theorem dX7_from_30 : decode cX7_from 30 = .ok (.ireturn, 1) := by decide +kernel
theorem dX7_from_31 : decode cX7_from 31 = .ok (.iconst 0, 1) := by decide +kernel
theorem dX7_from_32 : decode cX7_from 32 = .ok (.istore_n 2, 1) := by decide +kernel
theorem dX7_from_33 : decode cX7_from 33 = .ok (.iload_n 2, 1) := by decide +kernel
theorem dX7_from_34 : decode cX7_from 34 = .ok (.sipush 340, 3) := by decide +kernel
theorem dX7_from_37 : decode cX7_from 37 = .ok (.if_icmp .ge 27, 3) := by decide +kernel
theorem dX7_from_40 : decode cX7_from 40 = .ok (.aload_n 0, 1) := by decide +kernel
theorem dX7_from_41 : decode cX7_from 41 = .ok (.getfield 7, 3) := by decide +kernel
theorem dX7_from_44 : decode cX7_from 44 = .ok (.iload_n 2, 1) := by decide +kernel
theorem dX7_from_45 : decode cX7_from 45 = .ok (.aload_n 0, 1) := by decide +kernel
theorem dX7_from_46 : decode cX7_from 46 = .ok (.getfield 35, 3) := by decide +kernel
theorem dX7_from_49 : decode cX7_from 49 = .ok (.sipush 340, 3) := by decide +kernel
theorem dX7_from_52 : decode cX7_from 52 = .ok (.iload_n 1, 1) := by decide +kernel
theorem dX7_from_53 : decode cX7_from 53 = .ok (.imul, 1) := by decide +kernel
theorem dX7_from_54 : decode cX7_from 54 = .ok (.iload_n 2, 1) := by decide +kernel
theorem dX7_from_55 : decode cX7_from 55 = .ok (.iadd, 1) := by decide +kernel
theorem dX7_from_56 : decode cX7_from 56 = .ok (.iaload, 1) := by decide +kernel
theorem dX7_from_57 : decode cX7_from 57 = .ok (.iastore, 1) := by decide +kernel
theorem dX7_from_58 : decode cX7_from 58 = .ok (.iinc 2 1, 3) := by decide +kernel
theorem dX7_from_61 : decode cX7_from 61 = .ok (.goto (-28), 3) := by decide +kernel
theorem dX7_from_64 : decode cX7_from 64 = .ok (.iconst 1, 1) := by decide +kernel
theorem dX7_from_65 : decode cX7_from 65 = .ok (.ireturn, 1) := by decide +kernel
theorem dX7_status_0 : decode cX7_status 0 = .ok (.iload_n 1, 1) := by decide +kernel
theorem dX7_status_1 : decode cX7_status 1 = .ok (.tableswitch 42 0 2 #[27, 32, 37], 27) := by decide +kernel
theorem dX7_status_28 : decode cX7_status 28 = .ok (.aload_n 0, 1) := by decide +kernel
theorem dX7_status_29 : decode cX7_status 29 = .ok (.getfield 42, 3) := by decide +kernel
theorem dX7_status_32 : decode cX7_status 32 = .ok (.ireturn, 1) := by decide +kernel
theorem dX7_status_33 : decode cX7_status 33 = .ok (.aload_n 0, 1) := by decide +kernel
theorem dX7_status_34 : decode cX7_status 34 = .ok (.getfield 46, 3) := by decide +kernel
theorem dX7_status_37 : decode cX7_status 37 = .ok (.ireturn, 1) := by decide +kernel
theorem dX7_status_38 : decode cX7_status 38 = .ok (.aload_n 0, 1) := by decide +kernel
theorem dX7_status_39 : decode cX7_status 39 = .ok (.getfield 49, 3) := by decide +kernel
theorem dX7_status_42 : decode cX7_status 42 = .ok (.ireturn, 1) := by decide +kernel
theorem dX7_status_43 : decode cX7_status 43 = .ok (.aload_n 0, 1) := by decide +kernel
theorem dX7_status_44 : decode cX7_status 44 = .ok (.dup, 1) := by decide +kernel
theorem dX7_status_45 : decode cX7_status 45 = .ok (.getfield 42, 3) := by decide +kernel
theorem dX7_status_48 : decode cX7_status 48 = .ok (.iconst 1, 1) := by decide +kernel
theorem dX7_status_49 : decode cX7_status 49 = .ok (.iadd, 1) := by decide +kernel
theorem dX7_status_50 : decode cX7_status 50 = .ok (.putfield 42, 3) := by decide +kernel
theorem dX7_status_53 : decode cX7_status 53 = .ok (.iconst (-1), 1) := by decide +kernel
theorem dX7_status_54 : decode cX7_status 54 = .ok (.ireturn, 1) := by decide +kernel
theorem dX7_counted_0 : decode cX7_counted 0 = .ok (.iconst 0, 1) := by decide +kernel
theorem dX7_counted_1 : decode cX7_counted 1 = .ok (.istore_n 2, 1) := by decide +kernel
theorem dX7_counted_2 : decode cX7_counted 2 = .ok (.iconst 0, 1) := by decide +kernel
theorem dX7_counted_3 : decode cX7_counted 3 = .ok (.istore_n 3, 1) := by decide +kernel
theorem dX7_counted_4 : decode cX7_counted 4 = .ok (.iload_n 3, 1) := by decide +kernel
theorem dX7_counted_5 : decode cX7_counted 5 = .ok (.aload_n 0, 1) := by decide +kernel
theorem dX7_counted_6 : decode cX7_counted 6 = .ok (.getfield 7, 3) := by decide +kernel
theorem dX7_counted_9 : decode cX7_counted 9 = .ok (.iconst 0, 1) := by decide +kernel
theorem dX7_counted_10 : decode cX7_counted 10 = .ok (.iaload, 1) := by decide +kernel
theorem dX7_counted_11 : decode cX7_counted 11 = .ok (.if_icmp .ge 18, 3) := by decide +kernel
theorem dX7_counted_14 : decode cX7_counted 14 = .ok (.iload_n 2, 1) := by decide +kernel
theorem dX7_counted_15 : decode cX7_counted 15 = .ok (.aload_n 0, 1) := by decide +kernel
theorem dX7_counted_16 : decode cX7_counted 16 = .ok (.iload_n 3, 1) := by decide +kernel
theorem dX7_counted_17 : decode cX7_counted 17 = .ok (.iconst 5, 1) := by decide +kernel
theorem dX7_counted_18 : decode cX7_counted 18 = .ok (.invokevirtual 56, 3) := by decide +kernel
theorem dX7_counted_21 : decode cX7_counted 21 = .ok (.iadd, 1) := by decide +kernel
theorem dX7_counted_22 : decode cX7_counted 22 = .ok (.istore_n 2, 1) := by decide +kernel
theorem dX7_counted_23 : decode cX7_counted 23 = .ok (.iinc 3 1, 3) := by decide +kernel
theorem dX7_counted_26 : decode cX7_counted 26 = .ok (.goto (-22), 3) := by decide +kernel
theorem dX7_counted_29 : decode cX7_counted 29 = .ok (.iload_n 1, 1) := by decide +kernel
theorem dX7_counted_30 : decode cX7_counted 30 = .ok (.tableswitch 122 0 9 #[54, 61, 66, 73, 80, 87, 89, 97, 105, 113], 54) := by decide +kernel
theorem dX7_counted_84 : decode cX7_counted 84 = .ok (.aload_n 0, 1) := by decide +kernel
theorem dX7_counted_85 : decode cX7_counted 85 = .ok (.getfield 7, 3) := by decide +kernel
theorem dX7_counted_88 : decode cX7_counted 88 = .ok (.iconst 0, 1) := by decide +kernel
theorem dX7_counted_89 : decode cX7_counted 89 = .ok (.iaload, 1) := by decide +kernel
theorem dX7_counted_90 : decode cX7_counted 90 = .ok (.ireturn, 1) := by decide +kernel
theorem dX7_counted_91 : decode cX7_counted 91 = .ok (.aload_n 0, 1) := by decide +kernel
theorem dX7_counted_92 : decode cX7_counted 92 = .ok (.invokevirtual 208, 3) := by decide +kernel
theorem dX7_counted_95 : decode cX7_counted 95 = .ok (.ireturn, 1) := by decide +kernel
theorem dX7_counted_96 : decode cX7_counted 96 = .ok (.aload_n 0, 1) := by decide +kernel
theorem dX7_counted_97 : decode cX7_counted 97 = .ok (.getfield 7, 3) := by decide +kernel
theorem dX7_counted_100 : decode cX7_counted 100 = .ok (.iconst 1, 1) := by decide +kernel
theorem dX7_counted_101 : decode cX7_counted 101 = .ok (.iaload, 1) := by decide +kernel
theorem dX7_counted_102 : decode cX7_counted 102 = .ok (.ireturn, 1) := by decide +kernel
theorem dX7_counted_103 : decode cX7_counted 103 = .ok (.aload_n 0, 1) := by decide +kernel
theorem dX7_counted_104 : decode cX7_counted 104 = .ok (.getfield 7, 3) := by decide +kernel
theorem dX7_counted_107 : decode cX7_counted 107 = .ok (.iconst 2, 1) := by decide +kernel
theorem dX7_counted_108 : decode cX7_counted 108 = .ok (.iaload, 1) := by decide +kernel
theorem dX7_counted_109 : decode cX7_counted 109 = .ok (.ireturn, 1) := by decide +kernel
theorem dX7_counted_110 : decode cX7_counted 110 = .ok (.aload_n 0, 1) := by decide +kernel
theorem dX7_counted_111 : decode cX7_counted 111 = .ok (.getfield 7, 3) := by decide +kernel
theorem dX7_counted_114 : decode cX7_counted 114 = .ok (.iconst 3, 1) := by decide +kernel
theorem dX7_counted_115 : decode cX7_counted 115 = .ok (.iaload, 1) := by decide +kernel
theorem dX7_counted_116 : decode cX7_counted 116 = .ok (.ireturn, 1) := by decide +kernel
theorem dX7_counted_117 : decode cX7_counted 117 = .ok (.iload_n 2, 1) := by decide +kernel
theorem dX7_counted_118 : decode cX7_counted 118 = .ok (.ireturn, 1) := by decide +kernel
theorem dX7_counted_119 : decode cX7_counted 119 = .ok (.aload_n 0, 1) := by decide +kernel
theorem dX7_counted_120 : decode cX7_counted 120 = .ok (.getfield 7, 3) := by decide +kernel
theorem dX7_counted_123 : decode cX7_counted 123 = .ok (.bipush 70, 2) := by decide +kernel
theorem dX7_counted_125 : decode cX7_counted 125 = .ok (.iaload, 1) := by decide +kernel
theorem dX7_counted_126 : decode cX7_counted 126 = .ok (.ireturn, 1) := by decide +kernel
theorem dX7_counted_127 : decode cX7_counted 127 = .ok (.aload_n 0, 1) := by decide +kernel
theorem dX7_counted_128 : decode cX7_counted 128 = .ok (.getfield 7, 3) := by decide +kernel
theorem dX7_counted_131 : decode cX7_counted 131 = .ok (.bipush 91, 2) := by decide +kernel
theorem dX7_counted_133 : decode cX7_counted 133 = .ok (.iaload, 1) := by decide +kernel
theorem dX7_counted_134 : decode cX7_counted 134 = .ok (.ireturn, 1) := by decide +kernel
theorem dX7_counted_135 : decode cX7_counted 135 = .ok (.aload_n 0, 1) := by decide +kernel
theorem dX7_counted_136 : decode cX7_counted 136 = .ok (.getfield 7, 3) := by decide +kernel
theorem dX7_counted_139 : decode cX7_counted 139 = .ok (.bipush 122, 2) := by decide +kernel
theorem dX7_counted_141 : decode cX7_counted 141 = .ok (.iaload, 1) := by decide +kernel
theorem dX7_counted_142 : decode cX7_counted 142 = .ok (.ireturn, 1) := by decide +kernel
theorem dX7_counted_143 : decode cX7_counted 143 = .ok (.aload_n 0, 1) := by decide +kernel
theorem dX7_counted_144 : decode cX7_counted 144 = .ok (.getfield 7, 3) := by decide +kernel
theorem dX7_counted_147 : decode cX7_counted 147 = .ok (.sipush 147, 3) := by decide +kernel
theorem dX7_counted_150 : decode cX7_counted 150 = .ok (.iaload, 1) := by decide +kernel
theorem dX7_counted_151 : decode cX7_counted 151 = .ok (.ireturn, 1) := by decide +kernel
theorem dX7_counted_152 : decode cX7_counted 152 = .ok (.aload_n 0, 1) := by decide +kernel
theorem dX7_counted_153 : decode cX7_counted 153 = .ok (.getfield 109, 3) := by decide +kernel
theorem dX7_counted_156 : decode cX7_counted 156 = .ok (.ireturn, 1) := by decide +kernel
theorem dX7_count_0 : decode cX7_count 0 = .ok (.iload_n 1, 1) := by decide +kernel
theorem dX7_count_1 : decode cX7_count 1 = .ok (.i2l, 1) := by decide +kernel
theorem dX7_count_2 : decode cX7_count 2 = .ok (.lconst 0, 1) := by decide +kernel
theorem dX7_count_3 : decode cX7_count 3 = .ok (.ldc2_w 277, 3) := by decide +kernel
theorem dX7_count_6 : decode cX7_count 6 = .ok (.invokestatic 52, 3) := by decide +kernel
theorem dX7_count_9 : decode cX7_count 9 = .ok (.ifCond .eq 11, 3) := by decide +kernel
theorem dX7_count_12 : decode cX7_count 12 = .ok (.aload_n 0, 1) := by decide +kernel
theorem dX7_count_13 : decode cX7_count 13 = .ok (.iload_n 1, 1) := by decide +kernel
theorem dX7_count_14 : decode cX7_count 14 = .ok (.invokevirtual 296, 3) := by decide +kernel
theorem dX7_count_17 : decode cX7_count 17 = .ok (.goto 7, 3) := by decide +kernel
theorem dX7_count_20 : decode cX7_count 20 = .ok (.aload_n 0, 1) := by decide +kernel
theorem dX7_count_21 : decode cX7_count 21 = .ok (.invokevirtual 84, 3) := by decide +kernel
theorem dX7_count_24 : decode cX7_count 24 = .ok (.ireturn, 1) := by decide +kernel
theorem dX7_over_0 : decode cX7_over 0 = .ok (.lload_n 1, 1) := by decide +kernel
theorem dX7_over_1 : decode cX7_over 1 = .ok (.lstore 5, 2) := by decide +kernel
theorem dX7_over_3 : decode cX7_over 3 = .ok (.iconst 0, 1) := by decide +kernel
theorem dX7_over_4 : decode cX7_over 4 = .ok (.istore 7, 2) := by decide +kernel
theorem dX7_over_6 : decode cX7_over 6 = .ok (.iload 7, 2) := by decide +kernel
theorem dX7_over_8 : decode cX7_over 8 = .ok (.iload 4, 2) := by decide +kernel
theorem dX7_over_10 : decode cX7_over 10 = .ok (.aload_n 0, 1) := by decide +kernel
theorem dX7_over_11 : decode cX7_over 11 = .ok (.getfield 7, 3) := by decide +kernel
theorem dX7_over_14 : decode cX7_over 14 = .ok (.iload_n 3, 1) := by decide +kernel
theorem dX7_over_15 : decode cX7_over 15 = .ok (.iaload, 1) := by decide +kernel
theorem dX7_over_16 : decode cX7_over 16 = .ok (.imul, 1) := by decide +kernel
theorem dX7_over_17 : decode cX7_over 17 = .ok (.if_icmp .ge 30, 3) := by decide +kernel
theorem dX7_over_20 : decode cX7_over 20 = .ok (.ldc2_w 299, 3) := by decide +kernel
theorem dX7_over_23 : decode cX7_over 23 = .ok (.lload 5, 2) := by decide +kernel
theorem dX7_over_25 : decode cX7_over 25 = .ok (.lmul, 1) := by decide +kernel
theorem dX7_over_26 : decode cX7_over 26 = .ok (.aload_n 0, 1) := by decide +kernel
theorem dX7_over_27 : decode cX7_over 27 = .ok (.getfield 7, 3) := by decide +kernel
theorem dX7_over_30 : decode cX7_over 30 = .ok (.iload_n 3, 1) := by decide +kernel
theorem dX7_over_31 : decode cX7_over 31 = .ok (.iconst 1, 1) := by decide +kernel
theorem dX7_over_32 : decode cX7_over 32 = .ok (.iadd, 1) := by decide +kernel
theorem dX7_over_33 : decode cX7_over 33 = .ok (.iload 7, 2) := by decide +kernel
theorem dX7_over_35 : decode cX7_over 35 = .ok (.iadd, 1) := by decide +kernel
theorem dX7_over_36 : decode cX7_over 36 = .ok (.iaload, 1) := by decide +kernel
theorem dX7_over_37 : decode cX7_over 37 = .ok (.i2l, 1) := by decide +kernel
theorem dX7_over_38 : decode cX7_over 38 = .ok (.ladd, 1) := by decide +kernel
theorem dX7_over_39 : decode cX7_over 39 = .ok (.lstore 5, 2) := by decide +kernel
theorem dX7_over_41 : decode cX7_over 41 = .ok (.iinc 7 1, 3) := by decide +kernel
theorem dX7_over_44 : decode cX7_over 44 = .ok (.goto (-38), 3) := by decide +kernel
theorem dX7_over_47 : decode cX7_over 47 = .ok (.lload 5, 2) := by decide +kernel
theorem dX7_over_49 : decode cX7_over 49 = .ok (.lreturn, 1) := by decide +kernel
theorem dX7_digest_0 : decode cX7_digest 0 = .ok (.ldc2_w 301, 3) := by decide +kernel
theorem dX7_digest_3 : decode cX7_digest 3 = .ok (.lstore_n 1, 1) := by decide +kernel
theorem dX7_digest_4 : decode cX7_digest 4 = .ok (.iconst 0, 1) := by decide +kernel
theorem dX7_digest_5 : decode cX7_digest 5 = .ok (.istore_n 3, 1) := by decide +kernel
theorem dX7_digest_6 : decode cX7_digest 6 = .ok (.iload_n 3, 1) := by decide +kernel
theorem dX7_digest_7 : decode cX7_digest 7 = .ok (.bipush 11, 2) := by decide +kernel
theorem dX7_digest_9 : decode cX7_digest 9 = .ok (.if_icmp .ge 22, 3) := by decide +kernel
theorem dX7_digest_12 : decode cX7_digest 12 = .ok (.ldc2_w 299, 3) := by decide +kernel
theorem dX7_digest_15 : decode cX7_digest 15 = .ok (.lload_n 1, 1) := by decide +kernel
theorem dX7_digest_16 : decode cX7_digest 16 = .ok (.lmul, 1) := by decide +kernel
theorem dX7_digest_17 : decode cX7_digest 17 = .ok (.aload_n 0, 1) := by decide +kernel
theorem dX7_digest_18 : decode cX7_digest 18 = .ok (.iload_n 3, 1) := by decide +kernel
theorem dX7_digest_19 : decode cX7_digest 19 = .ok (.invokevirtual 296, 3) := by decide +kernel
theorem dX7_digest_22 : decode cX7_digest 22 = .ok (.i2l, 1) := by decide +kernel
theorem dX7_digest_23 : decode cX7_digest 23 = .ok (.ladd, 1) := by decide +kernel
theorem dX7_digest_24 : decode cX7_digest 24 = .ok (.lstore_n 1, 1) := by decide +kernel
theorem dX7_digest_25 : decode cX7_digest 25 = .ok (.iinc 3 1, 3) := by decide +kernel
theorem dX7_digest_28 : decode cX7_digest 28 = .ok (.goto (-22), 3) := by decide +kernel
theorem dX7_digest_31 : decode cX7_digest 31 = .ok (.iconst 0, 1) := by decide +kernel
theorem dX7_digest_32 : decode cX7_digest 32 = .ok (.istore_n 3, 1) := by decide +kernel
theorem dX7_digest_33 : decode cX7_digest 33 = .ok (.iload_n 3, 1) := by decide +kernel
theorem dX7_digest_34 : decode cX7_digest 34 = .ok (.bipush 7, 2) := by decide +kernel
theorem dX7_digest_36 : decode cX7_digest 36 = .ok (.aload_n 0, 1) := by decide +kernel
theorem dX7_digest_37 : decode cX7_digest 37 = .ok (.getfield 7, 3) := by decide +kernel
theorem dX7_digest_40 : decode cX7_digest 40 = .ok (.iconst 0, 1) := by decide +kernel
theorem dX7_digest_41 : decode cX7_digest 41 = .ok (.iaload, 1) := by decide +kernel
theorem dX7_digest_42 : decode cX7_digest 42 = .ok (.imul, 1) := by decide +kernel
theorem dX7_digest_43 : decode cX7_digest 43 = .ok (.if_icmp .ge 25, 3) := by decide +kernel
theorem dX7_digest_46 : decode cX7_digest 46 = .ok (.ldc2_w 299, 3) := by decide +kernel
theorem dX7_digest_49 : decode cX7_digest 49 = .ok (.lload_n 1, 1) := by decide +kernel
theorem dX7_digest_50 : decode cX7_digest 50 = .ok (.lmul, 1) := by decide +kernel
theorem dX7_digest_51 : decode cX7_digest 51 = .ok (.aload_n 0, 1) := by decide +kernel
theorem dX7_digest_52 : decode cX7_digest 52 = .ok (.getfield 7, 3) := by decide +kernel
theorem dX7_digest_55 : decode cX7_digest 55 = .ok (.iconst 4, 1) := by decide +kernel
theorem dX7_digest_56 : decode cX7_digest 56 = .ok (.iload_n 3, 1) := by decide +kernel
theorem dX7_digest_57 : decode cX7_digest 57 = .ok (.iadd, 1) := by decide +kernel
theorem dX7_digest_58 : decode cX7_digest 58 = .ok (.iaload, 1) := by decide +kernel
theorem dX7_digest_59 : decode cX7_digest 59 = .ok (.i2l, 1) := by decide +kernel
theorem dX7_digest_60 : decode cX7_digest 60 = .ok (.ladd, 1) := by decide +kernel
theorem dX7_digest_61 : decode cX7_digest 61 = .ok (.lstore_n 1, 1) := by decide +kernel
theorem dX7_digest_62 : decode cX7_digest 62 = .ok (.iinc 3 1, 3) := by decide +kernel
theorem dX7_digest_65 : decode cX7_digest 65 = .ok (.goto (-32), 3) := by decide +kernel
theorem dX7_digest_68 : decode cX7_digest 68 = .ok (.iconst 0, 1) := by decide +kernel
theorem dX7_digest_69 : decode cX7_digest 69 = .ok (.istore_n 3, 1) := by decide +kernel
theorem dX7_digest_70 : decode cX7_digest 70 = .ok (.iload_n 3, 1) := by decide +kernel
theorem dX7_digest_71 : decode cX7_digest 71 = .ok (.bipush 16, 2) := by decide +kernel
theorem dX7_digest_73 : decode cX7_digest 73 = .ok (.if_icmp .ge 26, 3) := by decide +kernel
theorem dX7_digest_76 : decode cX7_digest 76 = .ok (.ldc2_w 299, 3) := by decide +kernel
theorem dX7_digest_79 : decode cX7_digest 79 = .ok (.lload_n 1, 1) := by decide +kernel
theorem dX7_digest_80 : decode cX7_digest 80 = .ok (.lmul, 1) := by decide +kernel
theorem dX7_digest_81 : decode cX7_digest 81 = .ok (.aload_n 0, 1) := by decide +kernel
theorem dX7_digest_82 : decode cX7_digest 82 = .ok (.getfield 7, 3) := by decide +kernel
theorem dX7_digest_85 : decode cX7_digest 85 = .ok (.bipush 54, 2) := by decide +kernel
theorem dX7_digest_87 : decode cX7_digest 87 = .ok (.iload_n 3, 1) := by decide +kernel
theorem dX7_digest_88 : decode cX7_digest 88 = .ok (.iadd, 1) := by decide +kernel
theorem dX7_digest_89 : decode cX7_digest 89 = .ok (.iaload, 1) := by decide +kernel
theorem dX7_digest_90 : decode cX7_digest 90 = .ok (.i2l, 1) := by decide +kernel
theorem dX7_digest_91 : decode cX7_digest 91 = .ok (.ladd, 1) := by decide +kernel
theorem dX7_digest_92 : decode cX7_digest 92 = .ok (.lstore_n 1, 1) := by decide +kernel
theorem dX7_digest_93 : decode cX7_digest 93 = .ok (.iinc 3 1, 3) := by decide +kernel
theorem dX7_digest_96 : decode cX7_digest 96 = .ok (.goto (-26), 3) := by decide +kernel
theorem dX7_digest_99 : decode cX7_digest 99 = .ok (.ldc2_w 299, 3) := by decide +kernel
theorem dX7_digest_102 : decode cX7_digest 102 = .ok (.lload_n 1, 1) := by decide +kernel
theorem dX7_digest_103 : decode cX7_digest 103 = .ok (.lmul, 1) := by decide +kernel
theorem dX7_digest_104 : decode cX7_digest 104 = .ok (.aload_n 0, 1) := by decide +kernel
theorem dX7_digest_105 : decode cX7_digest 105 = .ok (.getfield 7, 3) := by decide +kernel
theorem dX7_digest_108 : decode cX7_digest 108 = .ok (.bipush 53, 2) := by decide +kernel
theorem dX7_digest_110 : decode cX7_digest 110 = .ok (.iaload, 1) := by decide +kernel
theorem dX7_digest_111 : decode cX7_digest 111 = .ok (.i2l, 1) := by decide +kernel
theorem dX7_digest_112 : decode cX7_digest 112 = .ok (.ladd, 1) := by decide +kernel
theorem dX7_digest_113 : decode cX7_digest 113 = .ok (.lstore_n 1, 1) := by decide +kernel
theorem dX7_digest_114 : decode cX7_digest 114 = .ok (.aload_n 0, 1) := by decide +kernel
theorem dX7_digest_115 : decode cX7_digest 115 = .ok (.lload_n 1, 1) := by decide +kernel
theorem dX7_digest_116 : decode cX7_digest 116 = .ok (.bipush 70, 2) := by decide +kernel
theorem dX7_digest_118 : decode cX7_digest 118 = .ok (.iconst 4, 1) := by decide +kernel
theorem dX7_digest_119 : decode cX7_digest 119 = .ok (.invokevirtual 303, 3) := by decide +kernel
theorem dX7_digest_122 : decode cX7_digest 122 = .ok (.lstore_n 1, 1) := by decide +kernel
theorem dX7_digest_123 : decode cX7_digest 123 = .ok (.aload_n 0, 1) := by decide +kernel
theorem dX7_digest_124 : decode cX7_digest 124 = .ok (.lload_n 1, 1) := by decide +kernel
theorem dX7_digest_125 : decode cX7_digest 125 = .ok (.bipush 91, 2) := by decide +kernel
theorem dX7_digest_127 : decode cX7_digest 127 = .ok (.iconst 5, 1) := by decide +kernel
theorem dX7_digest_128 : decode cX7_digest 128 = .ok (.invokevirtual 303, 3) := by decide +kernel
theorem dX7_digest_131 : decode cX7_digest 131 = .ok (.lstore_n 1, 1) := by decide +kernel
theorem dX7_digest_132 : decode cX7_digest 132 = .ok (.aload_n 0, 1) := by decide +kernel
theorem dX7_digest_133 : decode cX7_digest 133 = .ok (.lload_n 1, 1) := by decide +kernel
theorem dX7_digest_134 : decode cX7_digest 134 = .ok (.bipush 122, 2) := by decide +kernel
theorem dX7_digest_136 : decode cX7_digest 136 = .ok (.iconst 4, 1) := by decide +kernel
theorem dX7_digest_137 : decode cX7_digest 137 = .ok (.invokevirtual 303, 3) := by decide +kernel
theorem dX7_digest_140 : decode cX7_digest 140 = .ok (.lstore_n 1, 1) := by decide +kernel
theorem dX7_digest_141 : decode cX7_digest 141 = .ok (.ldc2_w 299, 3) := by decide +kernel
theorem dX7_digest_144 : decode cX7_digest 144 = .ok (.ldc2_w 299, 3) := by decide +kernel
theorem dX7_digest_147 : decode cX7_digest 147 = .ok (.lload_n 1, 1) := by decide +kernel
theorem dX7_digest_148 : decode cX7_digest 148 = .ok (.lmul, 1) := by decide +kernel
theorem dX7_digest_149 : decode cX7_digest 149 = .ok (.aload_n 0, 1) := by decide +kernel
theorem dX7_digest_150 : decode cX7_digest 150 = .ok (.getfield 274, 3) := by decide +kernel
theorem dX7_digest_153 : decode cX7_digest 153 = .ok (.ladd, 1) := by decide +kernel
theorem dX7_digest_154 : decode cX7_digest 154 = .ok (.lmul, 1) := by decide +kernel
theorem dX7_digest_155 : decode cX7_digest 155 = .ok (.aload_n 0, 1) := by decide +kernel
theorem dX7_digest_156 : decode cX7_digest 156 = .ok (.getfield 13, 3) := by decide +kernel
theorem dX7_digest_159 : decode cX7_digest 159 = .ok (.ladd, 1) := by decide +kernel
theorem dX7_digest_160 : decode cX7_digest 160 = .ok (.lreturn, 1) := by decide +kernel
