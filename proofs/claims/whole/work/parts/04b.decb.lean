/-! what each instruction is: the reference -/
theorem dX12_thrown_0 : decode cX12_thrown 0 = .ok (.aload_n 0, 1) := by decide +kernel
theorem dX12_thrown_1 : decode cX12_thrown 1 = .ok (.getfield 3, 3) := by decide +kernel
theorem dX12_thrown_4 : decode cX12_thrown 4 = .ok (.ireturn, 1) := by decide +kernel
theorem dX12_throwsIf_0 : decode cX12_throwsIf 0 = .ok (.iload_n 1, 1) := by decide +kernel
theorem dX12_throwsIf_1 : decode cX12_throwsIf 1 = .ok (.ifCond .eq 8, 3) := by decide +kernel
theorem dX12_throwsIf_4 : decode cX12_throwsIf 4 = .ok (.aload_n 0, 1) := by decide +kernel
theorem dX12_throwsIf_5 : decode cX12_throwsIf 5 = .ok (.iload_n 2, 1) := by decide +kernel
theorem dX12_throwsIf_6 : decode cX12_throwsIf 6 = .ok (.putfield 3, 3) := by decide +kernel
theorem dX12_throwsIf_9 : decode cX12_throwsIf 9 = .ok (.iload_n 1, 1) := by decide +kernel
theorem dX12_throwsIf_10 : decode cX12_throwsIf 10 = .ok (.ireturn, 1) := by decide +kernel
theorem dX12_in_0 : decode cX12_in 0 = .ok (.iload_n 0, 1) := by decide +kernel
theorem dX12_in_1 : decode cX12_in 1 = .ok (.iload_n 1, 1) := by decide +kernel
theorem dX12_in_2 : decode cX12_in 2 = .ok (.if_icmp .lt 12, 3) := by decide +kernel
theorem dX12_in_5 : decode cX12_in 5 = .ok (.iload_n 0, 1) := by decide +kernel
theorem dX12_in_6 : decode cX12_in 6 = .ok (.iload_n 2, 1) := by decide +kernel
theorem dX12_in_7 : decode cX12_in 7 = .ok (.if_icmp .gt 7, 3) := by decide +kernel
theorem dX12_in_10 : decode cX12_in 10 = .ok (.iconst 1, 1) := by decide +kernel
theorem dX12_in_11 : decode cX12_in 11 = .ok (.goto 4, 3) := by decide +kernel
theorem dX12_in_14 : decode cX12_in 14 = .ok (.iconst 0, 1) := by decide +kernel
theorem dX12_in_15 : decode cX12_in 15 = .ok (.ireturn, 1) := by decide +kernel
theorem dX12_has_0 : decode cX12_has 0 = .ok (.iload_n 0, 1) := by decide +kernel
theorem dX12_has_1 : decode cX12_has 1 = .ok (.iload_n 1, 1) := by decide +kernel
theorem dX12_has_2 : decode cX12_has 2 = .ok (.ishr, 1) := by decide +kernel
theorem dX12_has_3 : decode cX12_has 3 = .ok (.iconst 1, 1) := by decide +kernel
theorem dX12_has_4 : decode cX12_has 4 = .ok (.iand, 1) := by decide +kernel
theorem dX12_has_5 : decode cX12_has 5 = .ok (.iconst 1, 1) := by decide +kernel
theorem dX12_has_6 : decode cX12_has 6 = .ok (.if_icmp .ne 7, 3) := by decide +kernel
theorem dX12_has_9 : decode cX12_has 9 = .ok (.iconst 1, 1) := by decide +kernel
theorem dX12_has_10 : decode cX12_has 10 = .ok (.goto 4, 3) := by decide +kernel
theorem dX12_has_13 : decode cX12_has 13 = .ok (.iconst 0, 1) := by decide +kernel
theorem dX12_has_14 : decode cX12_has 14 = .ok (.ireturn, 1) := by decide +kernel
theorem dX12_init_0 : decode cX12_init 0 = .ok (.aload_n 0, 1) := by decide +kernel
theorem dX12_init_1 : decode cX12_init 1 = .ok (.invokespecial 7, 3) := by decide +kernel
theorem dX12_init_4 : decode cX12_init 4 = .ok (.aload_n 0, 1) := by decide +kernel
theorem dX12_init_5 : decode cX12_init 5 = .ok (.sipush 2062, 3) := by decide +kernel
theorem dX12_init_8 : decode cX12_init 8 = .ok (.newarray .int, 2) := by decide +kernel
theorem dX12_init_10 : decode cX12_init 10 = .ok (.putfield 13, 3) := by decide +kernel
theorem dX12_init_13 : decode cX12_init 13 = .ok (.aload_n 0, 1) := by decide +kernel
theorem dX12_init_14 : decode cX12_init 14 = .ok (.sipush 1213, 3) := by decide +kernel
theorem dX12_init_17 : decode cX12_init 17 = .ok (.newarray .int, 2) := by decide +kernel
theorem dX12_init_19 : decode cX12_init 19 = .ok (.putfield 17, 3) := by decide +kernel
theorem dX12_init_22 : decode cX12_init 22 = .ok (.aload_n 0, 1) := by decide +kernel
theorem dX12_init_23 : decode cX12_init 23 = .ok (.sipush 1213, 3) := by decide +kernel
theorem dX12_init_26 : decode cX12_init 26 = .ok (.newarray .int, 2) := by decide +kernel
theorem dX12_init_28 : decode cX12_init 28 = .ok (.putfield 20, 3) := by decide +kernel
theorem dX12_init_31 : decode cX12_init 31 = .ok (.aload_n 0, 1) := by decide +kernel
theorem dX12_init_32 : decode cX12_init 32 = .ok (.sipush 364, 3) := by decide +kernel
theorem dX12_init_35 : decode cX12_init 35 = .ok (.newarray .int, 2) := by decide +kernel
theorem dX12_init_37 : decode cX12_init 37 = .ok (.putfield 23, 3) := by decide +kernel
theorem dX12_init_40 : decode cX12_init 40 = .ok (.aload_n 0, 1) := by decide +kernel
theorem dX12_init_41 : decode cX12_init 41 = .ok (.sipush 4368, 3) := by decide +kernel
theorem dX12_init_44 : decode cX12_init 44 = .ok (.newarray .int, 2) := by decide +kernel
theorem dX12_init_46 : decode cX12_init 46 = .ok (.putfield 26, 3) := by decide +kernel
theorem dX12_init_49 : decode cX12_init 49 = .ok (.aload_n 0, 1) := by decide +kernel
theorem dX12_init_50 : decode cX12_init 50 = .ok (.sipush 400, 3) := by decide +kernel
theorem dX12_init_53 : decode cX12_init 53 = .ok (.newarray .byte, 2) := by decide +kernel
theorem dX12_init_55 : decode cX12_init 55 = .ok (.putfield 29, 3) := by decide +kernel
theorem dX12_init_58 : decode cX12_init 58 = .ok (.aload_n 0, 1) := by decide +kernel
theorem dX12_init_59 : decode cX12_init 59 = .ok (.iconst (-1), 1) := by decide +kernel
theorem dX12_init_60 : decode cX12_init 60 = .ok (.putfield 33, 3) := by decide +kernel
theorem dX12_init_63 : decode cX12_init 63 = .ok (.aload_n 0, 1) := by decide +kernel
theorem dX12_init_64 : decode cX12_init 64 = .ok (.iconst 5, 1) := by decide +kernel
theorem dX12_init_65 : decode cX12_init 65 = .ok (.newarray .int, 2) := by decide +kernel
theorem dX12_init_67 : decode cX12_init 67 = .ok (.putfield 36, 3) := by decide +kernel
theorem dX12_init_70 : decode cX12_init 70 = .ok (.aload_n 0, 1) := by decide +kernel
theorem dX12_init_71 : decode cX12_init 71 = .ok (.sipush 400, 3) := by decide +kernel
theorem dX12_init_74 : decode cX12_init 74 = .ok (.newarray .int, 2) := by decide +kernel
theorem dX12_init_76 : decode cX12_init 76 = .ok (.putfield 39, 3) := by decide +kernel
theorem dX12_init_79 : decode cX12_init 79 = .ok (.aload_n 0, 1) := by decide +kernel
theorem dX12_init_80 : decode cX12_init 80 = .ok (.bipush 64, 2) := by decide +kernel
theorem dX12_init_82 : decode cX12_init 82 = .ok (.newarray .int, 2) := by decide +kernel
theorem dX12_init_84 : decode cX12_init 84 = .ok (.putfield 42, 3) := by decide +kernel
theorem dX12_init_87 : decode cX12_init 87 = .ok (.aload_n 0, 1) := by decide +kernel
theorem dX12_init_88 : decode cX12_init 88 = .ok (.bipush 6, 2) := by decide +kernel
theorem dX12_init_90 : decode cX12_init 90 = .ok (.newarray .int, 2) := by decide +kernel
theorem dX12_init_92 : decode cX12_init 92 = .ok (.putfield 45, 3) := by decide +kernel
theorem dX12_init_95 : decode cX12_init 95 = .ok (.aload_n 0, 1) := by decide +kernel
theorem dX12_init_96 : decode cX12_init 96 = .ok (.bipush 7, 2) := by decide +kernel
theorem dX12_init_98 : decode cX12_init 98 = .ok (.newarray .long, 2) := by decide +kernel
theorem dX12_init_100 : decode cX12_init 100 = .ok (.putfield 48, 3) := by decide +kernel
theorem dX12_init_103 : decode cX12_init 103 = .ok (.aload_n 0, 1) := by decide +kernel
theorem dX12_init_104 : decode cX12_init 104 = .ok (.getfield 13, 3) := by decide +kernel
theorem dX12_init_107 : decode cX12_init 107 = .ok (.bipush 9, 2) := by decide +kernel
theorem dX12_init_109 : decode cX12_init 109 = .ok (.iconst 1, 1) := by decide +kernel
theorem dX12_init_110 : decode cX12_init 110 = .ok (.iastore, 1) := by decide +kernel
theorem dX12_init_111 : decode cX12_init 111 = .ok (.iconst 0, 1) := by decide +kernel
theorem dX12_init_112 : decode cX12_init 112 = .ok (.istore_n 1, 1) := by decide +kernel
theorem dX12_init_113 : decode cX12_init 113 = .ok (.iload_n 1, 1) := by decide +kernel
theorem dX12_init_114 : decode cX12_init 114 = .ok (.iconst 4, 1) := by decide +kernel
theorem dX12_init_115 : decode cX12_init 115 = .ok (.if_icmp .ge 19, 3) := by decide +kernel
theorem dX12_init_118 : decode cX12_init 118 = .ok (.aload_n 0, 1) := by decide +kernel
theorem dX12_init_119 : decode cX12_init 119 = .ok (.getfield 13, 3) := by decide +kernel
theorem dX12_init_122 : decode cX12_init 122 = .ok (.bipush 10, 2) := by decide +kernel
theorem dX12_init_124 : decode cX12_init 124 = .ok (.iload_n 1, 1) := by decide +kernel
theorem dX12_init_125 : decode cX12_init 125 = .ok (.iadd, 1) := by decide +kernel
theorem dX12_init_126 : decode cX12_init 126 = .ok (.iconst 3, 1) := by decide +kernel
theorem dX12_init_127 : decode cX12_init 127 = .ok (.iastore, 1) := by decide +kernel
theorem dX12_init_128 : decode cX12_init 128 = .ok (.iinc 1 1, 3) := by decide +kernel
theorem dX12_init_131 : decode cX12_init 131 = .ok (.goto (-18), 3) := by decide +kernel
theorem dX12_init_134 : decode cX12_init 134 = .ok (.return_, 1) := by decide +kernel
theorem dX12_image_0 : decode cX12_image 0 = .ok (.aload_n 0, 1) := by decide +kernel
theorem dX12_image_1 : decode cX12_image 1 = .ok (.iconst 0, 1) := by decide +kernel
theorem dX12_image_2 : decode cX12_image 2 = .ok (.putfield 3, 3) := by decide +kernel
theorem dX12_image_5 : decode cX12_image 5 = .ok (.iconst 0, 1) := by decide +kernel
theorem dX12_image_6 : decode cX12_image 6 = .ok (.istore_n 1, 1) := by decide +kernel
theorem dX12_image_7 : decode cX12_image 7 = .ok (.iload_n 1, 1) := by decide +kernel
theorem dX12_image_8 : decode cX12_image 8 = .ok (.sipush 1213, 3) := by decide +kernel
theorem dX12_image_11 : decode cX12_image 11 = .ok (.if_icmp .ge 21, 3) := by decide +kernel
theorem dX12_image_14 : decode cX12_image 14 = .ok (.aload_n 0, 1) := by decide +kernel
theorem dX12_image_15 : decode cX12_image 15 = .ok (.getfield 17, 3) := by decide +kernel
theorem dX12_image_18 : decode cX12_image 18 = .ok (.iload_n 1, 1) := by decide +kernel
theorem dX12_image_19 : decode cX12_image 19 = .ok (.aload_n 0, 1) := by decide +kernel
theorem dX12_image_20 : decode cX12_image 20 = .ok (.getfield 13, 3) := by decide +kernel
theorem dX12_image_23 : decode cX12_image 23 = .ok (.iload_n 1, 1) := by decide +kernel
theorem dX12_image_24 : decode cX12_image 24 = .ok (.iaload, 1) := by decide +kernel
theorem dX12_image_25 : decode cX12_image 25 = .ok (.iastore, 1) := by decide +kernel
theorem dX12_image_26 : decode cX12_image 26 = .ok (.iinc 1 1, 3) := by decide +kernel
theorem dX12_image_29 : decode cX12_image 29 = .ok (.goto (-22), 3) := by decide +kernel
theorem dX12_image_32 : decode cX12_image 32 = .ok (.aload_n 0, 1) := by decide +kernel
theorem dX12_image_33 : decode cX12_image 33 = .ok (.iconst 1, 1) := by decide +kernel
theorem dX12_image_34 : decode cX12_image 34 = .ok (.putfield 52, 3) := by decide +kernel
theorem dX12_image_37 : decode cX12_image 37 = .ok (.return_, 1) := by decide +kernel
theorem dX12_back_0 : decode cX12_back 0 = .ok (.aload_n 0, 1) := by decide +kernel
theorem dX12_back_1 : decode cX12_back 1 = .ok (.iconst 0, 1) := by decide +kernel
theorem dX12_back_2 : decode cX12_back 2 = .ok (.putfield 3, 3) := by decide +kernel
theorem dX12_back_5 : decode cX12_back 5 = .ok (.aload_n 0, 1) := by decide +kernel
theorem dX12_back_6 : decode cX12_back 6 = .ok (.getfield 52, 3) := by decide +kernel
theorem dX12_back_9 : decode cX12_back 9 = .ok (.ifCond .ne 5, 3) := by decide +kernel
theorem dX12_back_12 : decode cX12_back 12 = .ok (.iconst 0, 1) := by decide +kernel
theorem dX12_back_13 : decode cX12_back 13 = .ok (.ireturn, 1) := by decide +kernel
theorem dX12_back_14 : decode cX12_back 14 = .ok (.iconst 0, 1) := by decide +kernel
theorem dX12_back_15 : decode cX12_back 15 = .ok (.istore_n 1, 1) := by decide +kernel
theorem dX12_back_16 : decode cX12_back 16 = .ok (.iload_n 1, 1) := by decide +kernel
theorem dX12_back_17 : decode cX12_back 17 = .ok (.sipush 1213, 3) := by decide +kernel
theorem dX12_back_20 : decode cX12_back 20 = .ok (.if_icmp .ge 21, 3) := by decide +kernel
theorem dX12_back_23 : decode cX12_back 23 = .ok (.aload_n 0, 1) := by decide +kernel
theorem dX12_back_24 : decode cX12_back 24 = .ok (.getfield 13, 3) := by decide +kernel
theorem dX12_back_27 : decode cX12_back 27 = .ok (.iload_n 1, 1) := by decide +kernel
theorem dX12_back_28 : decode cX12_back 28 = .ok (.aload_n 0, 1) := by decide +kernel
theorem dX12_back_29 : decode cX12_back 29 = .ok (.getfield 17, 3) := by decide +kernel
theorem dX12_back_32 : decode cX12_back 32 = .ok (.iload_n 1, 1) := by decide +kernel
theorem dX12_back_33 : decode cX12_back 33 = .ok (.iaload, 1) := by decide +kernel
theorem dX12_back_34 : decode cX12_back 34 = .ok (.iastore, 1) := by decide +kernel
theorem dX12_back_35 : decode cX12_back 35 = .ok (.iinc 1 1, 3) := by decide +kernel
theorem dX12_back_38 : decode cX12_back 38 = .ok (.goto (-22), 3) := by decide +kernel
theorem dX12_back_41 : decode cX12_back 41 = .ok (.aload_n 0, 1) := by decide +kernel
theorem dX12_back_42 : decode cX12_back 42 = .ok (.iconst 0, 1) := by decide +kernel
theorem dX12_back_43 : decode cX12_back 43 = .ok (.putfield 56, 3) := by decide +kernel
theorem dX12_back_46 : decode cX12_back 46 = .ok (.iconst 1, 1) := by decide +kernel
theorem dX12_back_47 : decode cX12_back 47 = .ok (.ireturn, 1) := by decide +kernel
theorem dX12_remembers_0 : decode cX12_remembers 0 = .ok (.aload_n 0, 1) := by decide +kernel
theorem dX12_remembers_1 : decode cX12_remembers 1 = .ok (.getfield 56, 3) := by decide +kernel
theorem dX12_remembers_4 : decode cX12_remembers 4 = .ok (.bipush 12, 2) := by decide +kernel
theorem dX12_remembers_6 : decode cX12_remembers 6 = .ok (.if_icmp .ne 37, 3) := by decide +kernel
theorem dX12_remembers_9 : decode cX12_remembers 9 = .ok (.iconst 0, 1) := by decide +kernel
theorem dX12_remembers_10 : decode cX12_remembers 10 = .ok (.istore_n 1, 1) := by decide +kernel
theorem dX12_remembers_11 : decode cX12_remembers 11 = .ok (.iload_n 1, 1) := by decide +kernel
theorem dX12_remembers_12 : decode cX12_remembers 12 = .ok (.sipush 4004, 3) := by decide +kernel
theorem dX12_remembers_15 : decode cX12_remembers 15 = .ok (.if_icmp .ge 25, 3) := by decide +kernel
theorem dX12_remembers_18 : decode cX12_remembers 18 = .ok (.aload_n 0, 1) := by decide +kernel
theorem dX12_remembers_19 : decode cX12_remembers 19 = .ok (.getfield 26, 3) := by decide +kernel
theorem dX12_remembers_22 : decode cX12_remembers 22 = .ok (.iload_n 1, 1) := by decide +kernel
theorem dX12_remembers_23 : decode cX12_remembers 23 = .ok (.aload_n 0, 1) := by decide +kernel
theorem dX12_remembers_24 : decode cX12_remembers 24 = .ok (.getfield 26, 3) := by decide +kernel
theorem dX12_remembers_27 : decode cX12_remembers 27 = .ok (.iload_n 1, 1) := by decide +kernel
theorem dX12_remembers_28 : decode cX12_remembers 28 = .ok (.sipush 364, 3) := by decide +kernel
theorem dX12_remembers_31 : decode cX12_remembers 31 = .ok (.iadd, 1) := by decide +kernel
theorem dX12_remembers_32 : decode cX12_remembers 32 = .ok (.iaload, 1) := by decide +kernel
theorem dX12_remembers_33 : decode cX12_remembers 33 = .ok (.iastore, 1) := by decide +kernel
theorem dX12_remembers_34 : decode cX12_remembers 34 = .ok (.iinc 1 1, 3) := by decide +kernel
theorem dX12_remembers_37 : decode cX12_remembers 37 = .ok (.goto (-26), 3) := by decide +kernel
theorem dX12_remembers_40 : decode cX12_remembers 40 = .ok (.goto 13, 3) := by decide +kernel
theorem dX12_remembers_43 : decode cX12_remembers 43 = .ok (.aload_n 0, 1) := by decide +kernel
theorem dX12_remembers_44 : decode cX12_remembers 44 = .ok (.dup, 1) := by decide +kernel
theorem dX12_remembers_45 : decode cX12_remembers 45 = .ok (.getfield 56, 3) := by decide +kernel
theorem dX12_remembers_48 : decode cX12_remembers 48 = .ok (.iconst 1, 1) := by decide +kernel
theorem dX12_remembers_49 : decode cX12_remembers 49 = .ok (.iadd, 1) := by decide +kernel
theorem dX12_remembers_50 : decode cX12_remembers 50 = .ok (.putfield 56, 3) := by decide +kernel
theorem dX12_remembers_53 : decode cX12_remembers 53 = .ok (.iconst 0, 1) := by decide +kernel
theorem dX12_remembers_54 : decode cX12_remembers 54 = .ok (.istore_n 1, 1) := by decide +kernel
theorem dX12_remembers_55 : decode cX12_remembers 55 = .ok (.iload_n 1, 1) := by decide +kernel
theorem dX12_remembers_56 : decode cX12_remembers 56 = .ok (.sipush 364, 3) := by decide +kernel
theorem dX12_remembers_59 : decode cX12_remembers 59 = .ok (.if_icmp .ge 32, 3) := by decide +kernel
theorem dX12_remembers_62 : decode cX12_remembers 62 = .ok (.aload_n 0, 1) := by decide +kernel
theorem dX12_remembers_63 : decode cX12_remembers 63 = .ok (.getfield 26, 3) := by decide +kernel
theorem dX12_remembers_66 : decode cX12_remembers 66 = .ok (.sipush 364, 3) := by decide +kernel
theorem dX12_remembers_69 : decode cX12_remembers 69 = .ok (.aload_n 0, 1) := by decide +kernel
theorem dX12_remembers_70 : decode cX12_remembers 70 = .ok (.getfield 56, 3) := by decide +kernel
theorem dX12_remembers_73 : decode cX12_remembers 73 = .ok (.iconst 1, 1) := by decide +kernel
theorem dX12_remembers_74 : decode cX12_remembers 74 = .ok (.isub, 1) := by decide +kernel
theorem dX12_remembers_75 : decode cX12_remembers 75 = .ok (.imul, 1) := by decide +kernel
theorem dX12_remembers_76 : decode cX12_remembers 76 = .ok (.iload_n 1, 1) := by decide +kernel
theorem dX12_remembers_77 : decode cX12_remembers 77 = .ok (.iadd, 1) := by decide +kernel
theorem dX12_remembers_78 : decode cX12_remembers 78 = .ok (.aload_n 0, 1) := by decide +kernel
theorem dX12_remembers_79 : decode cX12_remembers 79 = .ok (.getfield 13, 3) := by decide +kernel
theorem dX12_remembers_82 : decode cX12_remembers 82 = .ok (.iload_n 1, 1) := by decide +kernel
theorem dX12_remembers_83 : decode cX12_remembers 83 = .ok (.iaload, 1) := by decide +kernel
theorem dX12_remembers_84 : decode cX12_remembers 84 = .ok (.iastore, 1) := by decide +kernel
theorem dX12_remembers_85 : decode cX12_remembers 85 = .ok (.iinc 1 1, 3) := by decide +kernel
theorem dX12_remembers_88 : decode cX12_remembers 88 = .ok (.goto (-33), 3) := by decide +kernel
theorem dX12_remembers_91 : decode cX12_remembers 91 = .ok (.return_, 1) := by decide +kernel
theorem dX12_undo_0 : decode cX12_undo 0 = .ok (.aload_n 0, 1) := by decide +kernel
theorem dX12_undo_1 : decode cX12_undo 1 = .ok (.iconst 0, 1) := by decide +kernel
theorem dX12_undo_2 : decode cX12_undo 2 = .ok (.putfield 3, 3) := by decide +kernel
theorem dX12_undo_5 : decode cX12_undo 5 = .ok (.aload_n 0, 1) := by decide +kernel
theorem dX12_undo_6 : decode cX12_undo 6 = .ok (.getfield 56, 3) := by decide +kernel
theorem dX12_undo_9 : decode cX12_undo 9 = .ok (.ifCond .ne 5, 3) := by decide +kernel
theorem dX12_undo_12 : decode cX12_undo 12 = .ok (.iconst 0, 1) := by decide +kernel
theorem dX12_undo_13 : decode cX12_undo 13 = .ok (.ireturn, 1) := by decide +kernel
theorem dX12_undo_14 : decode cX12_undo 14 = .ok (.aload_n 0, 1) := by decide +kernel
theorem dX12_undo_15 : decode cX12_undo 15 = .ok (.dup, 1) := by decide +kernel
theorem dX12_undo_16 : decode cX12_undo 16 = .ok (.getfield 56, 3) := by decide +kernel
theorem dX12_undo_19 : decode cX12_undo 19 = .ok (.iconst 1, 1) := by decide +kernel
theorem dX12_undo_20 : decode cX12_undo 20 = .ok (.isub, 1) := by decide +kernel
theorem dX12_undo_21 : decode cX12_undo 21 = .ok (.putfield 56, 3) := by decide +kernel
theorem dX12_undo_24 : decode cX12_undo 24 = .ok (.iconst 0, 1) := by decide +kernel
theorem dX12_undo_25 : decode cX12_undo 25 = .ok (.istore_n 1, 1) := by decide +kernel
theorem dX12_undo_26 : decode cX12_undo 26 = .ok (.iload_n 1, 1) := by decide +kernel
theorem dX12_undo_27 : decode cX12_undo 27 = .ok (.sipush 364, 3) := by decide +kernel
theorem dX12_undo_30 : decode cX12_undo 30 = .ok (.if_icmp .ge 30, 3) := by decide +kernel
theorem dX12_undo_33 : decode cX12_undo 33 = .ok (.aload_n 0, 1) := by decide +kernel
theorem dX12_undo_34 : decode cX12_undo 34 = .ok (.getfield 13, 3) := by decide +kernel
theorem dX12_undo_37 : decode cX12_undo 37 = .ok (.iload_n 1, 1) := by decide +kernel
theorem dX12_undo_38 : decode cX12_undo 38 = .ok (.aload_n 0, 1) := by decide +kernel
theorem dX12_undo_39 : decode cX12_undo 39 = .ok (.getfield 26, 3) := by decide +kernel
theorem dX12_undo_42 : decode cX12_undo 42 = .ok (.sipush 364, 3) := by decide +kernel
theorem dX12_undo_45 : decode cX12_undo 45 = .ok (.aload_n 0, 1) := by decide +kernel
theorem dX12_undo_46 : decode cX12_undo 46 = .ok (.getfield 56, 3) := by decide +kernel
theorem dX12_undo_49 : decode cX12_undo 49 = .ok (.imul, 1) := by decide +kernel
theorem dX12_undo_50 : decode cX12_undo 50 = .ok (.iload_n 1, 1) := by decide +kernel
theorem dX12_undo_51 : decode cX12_undo 51 = .ok (.iadd, 1) := by decide +kernel
theorem dX12_undo_52 : decode cX12_undo 52 = .ok (.iaload, 1) := by decide +kernel
theorem dX12_undo_53 : decode cX12_undo 53 = .ok (.iastore, 1) := by decide +kernel
theorem dX12_undo_54 : decode cX12_undo 54 = .ok (.iinc 1 1, 3) := by decide +kernel
theorem dX12_undo_57 : decode cX12_undo 57 = .ok (.goto (-31), 3) := by decide +kernel
theorem dX12_undo_60 : decode cX12_undo 60 = .ok (.iconst 1, 1) := by decide +kernel
theorem dX12_undo_61 : decode cX12_undo 61 = .ok (.ireturn, 1) := by decide +kernel
theorem dX12_families_0 : decode cX12_families 0 = .ok (.aload_n 0, 1) := by decide +kernel
theorem dX12_families_1 : decode cX12_families 1 = .ok (.getfield 13, 3) := by decide +kernel
theorem dX12_families_4 : decode cX12_families 4 = .ok (.iconst 0, 1) := by decide +kernel
theorem dX12_families_5 : decode cX12_families 5 = .ok (.iaload, 1) := by decide +kernel
theorem dX12_families_6 : decode cX12_families 6 = .ok (.ireturn, 1) := by decide +kernel
theorem dX12_allFamilies_0 : decode cX12_allFamilies 0 = .ok (.iconst 1, 1) := by decide +kernel
theorem dX12_allFamilies_1 : decode cX12_allFamilies 1 = .ok (.aload_n 0, 1) := by decide +kernel
theorem dX12_allFamilies_2 : decode cX12_allFamilies 2 = .ok (.invokevirtual 59, 3) := by decide +kernel
theorem dX12_allFamilies_5 : decode cX12_allFamilies 5 = .ok (.ishl, 1) := by decide +kernel
theorem dX12_allFamilies_6 : decode cX12_allFamilies 6 = .ok (.iconst 1, 1) := by decide +kernel
theorem dX12_allFamilies_7 : decode cX12_allFamilies 7 = .ok (.isub, 1) := by decide +kernel
theorem dX12_allFamilies_8 : decode cX12_allFamilies 8 = .ok (.ireturn, 1) := by decide +kernel
theorem dX12_grudges_0 : decode cX12_grudges 0 = .ok (.aload_n 0, 1) := by decide +kernel
theorem dX12_grudges_1 : decode cX12_grudges 1 = .ok (.getfield 13, 3) := by decide +kernel
theorem dX12_grudges_4 : decode cX12_grudges 4 = .ok (.iconst 1, 1) := by decide +kernel
theorem dX12_grudges_5 : decode cX12_grudges 5 = .ok (.iaload, 1) := by decide +kernel
theorem dX12_grudges_6 : decode cX12_grudges 6 = .ok (.ireturn, 1) := by decide +kernel
theorem dX12_familyAt_0 : decode cX12_familyAt 0 = .ok (.bipush 30, 2) := by decide +kernel
theorem dX12_familyAt_2 : decode cX12_familyAt 2 = .ok (.iconst 4, 1) := by decide +kernel
theorem dX12_familyAt_3 : decode cX12_familyAt 3 = .ok (.iload_n 0, 1) := by decide +kernel
theorem dX12_familyAt_4 : decode cX12_familyAt 4 = .ok (.imul, 1) := by decide +kernel
theorem dX12_familyAt_5 : decode cX12_familyAt 5 = .ok (.iadd, 1) := by decide +kernel
theorem dX12_familyAt_6 : decode cX12_familyAt 6 = .ok (.iload_n 1, 1) := by decide +kernel
theorem dX12_familyAt_7 : decode cX12_familyAt 7 = .ok (.iadd, 1) := by decide +kernel
theorem dX12_familyAt_8 : decode cX12_familyAt 8 = .ok (.ireturn, 1) := by decide +kernel
theorem dX12_ofFamily_0 : decode cX12_ofFamily 0 = .ok (.aload_n 0, 1) := by decide +kernel
theorem dX12_ofFamily_1 : decode cX12_ofFamily 1 = .ok (.getfield 13, 3) := by decide +kernel
theorem dX12_ofFamily_4 : decode cX12_ofFamily 4 = .ok (.iload_n 1, 1) := by decide +kernel
theorem dX12_ofFamily_5 : decode cX12_ofFamily 5 = .ok (.iload_n 2, 1) := by decide +kernel
theorem dX12_ofFamily_6 : decode cX12_ofFamily 6 = .ok (.invokestatic 63, 3) := by decide +kernel
theorem dX12_ofFamily_9 : decode cX12_ofFamily 9 = .ok (.iaload, 1) := by decide +kernel
theorem dX12_ofFamily_10 : decode cX12_ofFamily 10 = .ok (.ireturn, 1) := by decide +kernel
theorem dX12_at_0 : decode cX12_at 0 = .ok (.bipush 54, 2) := by decide +kernel
theorem dX12_at_2 : decode cX12_at 2 = .ok (.bipush 7, 2) := by decide +kernel
theorem dX12_at_4 : decode cX12_at 4 = .ok (.iload_n 0, 1) := by decide +kernel
theorem dX12_at_5 : decode cX12_at 5 = .ok (.imul, 1) := by decide +kernel
theorem dX12_at_6 : decode cX12_at 6 = .ok (.iadd, 1) := by decide +kernel
theorem dX12_at_7 : decode cX12_at 7 = .ok (.iload_n 1, 1) := by decide +kernel
theorem dX12_at_8 : decode cX12_at 8 = .ok (.iadd, 1) := by decide +kernel
theorem dX12_at_9 : decode cX12_at 9 = .ok (.ireturn, 1) := by decide +kernel
theorem dX12_of_0 : decode cX12_of 0 = .ok (.aload_n 0, 1) := by decide +kernel
theorem dX12_of_1 : decode cX12_of 1 = .ok (.getfield 13, 3) := by decide +kernel
theorem dX12_of_4 : decode cX12_of 4 = .ok (.iload_n 1, 1) := by decide +kernel
theorem dX12_of_5 : decode cX12_of 5 = .ok (.iload_n 2, 1) := by decide +kernel
theorem dX12_of_6 : decode cX12_of 6 = .ok (.invokestatic 67, 3) := by decide +kernel
theorem dX12_of_9 : decode cX12_of 9 = .ok (.iaload, 1) := by decide +kernel
theorem dX12_of_10 : decode cX12_of 10 = .ok (.ireturn, 1) := by decide +kernel
theorem dX12_isThawed_0 : decode cX12_isThawed 0 = .ok (.aload_n 0, 1) := by decide +kernel
theorem dX12_isThawed_1 : decode cX12_isThawed 1 = .ok (.iload_n 1, 1) := by decide +kernel
theorem dX12_isThawed_2 : decode cX12_isThawed 2 = .ok (.bipush 6, 2) := by decide +kernel
theorem dX12_isThawed_4 : decode cX12_isThawed 4 = .ok (.invokevirtual 70, 3) := by decide +kernel
theorem dX12_isThawed_7 : decode cX12_isThawed 7 = .ok (.iconst 1, 1) := by decide +kernel
theorem dX12_isThawed_8 : decode cX12_isThawed 8 = .ok (.if_icmp .ne 7, 3) := by decide +kernel
theorem dX12_isThawed_11 : decode cX12_isThawed 11 = .ok (.iconst 1, 1) := by decide +kernel
theorem dX12_isThawed_12 : decode cX12_isThawed 12 = .ok (.goto 4, 3) := by decide +kernel
theorem dX12_isThawed_15 : decode cX12_isThawed 15 = .ok (.iconst 0, 1) := by decide +kernel
theorem dX12_isThawed_16 : decode cX12_isThawed 16 = .ok (.ireturn, 1) := by decide +kernel
theorem dX12_standing_0 : decode cX12_standing 0 = .ok (.iconst 0, 1) := by decide +kernel
theorem dX12_standing_1 : decode cX12_standing 1 = .ok (.istore_n 1, 1) := by decide +kernel
theorem dX12_standing_2 : decode cX12_standing 2 = .ok (.iconst 0, 1) := by decide +kernel
theorem dX12_standing_3 : decode cX12_standing 3 = .ok (.istore_n 2, 1) := by decide +kernel
theorem dX12_standing_4 : decode cX12_standing 4 = .ok (.iload_n 2, 1) := by decide +kernel
theorem dX12_standing_5 : decode cX12_standing 5 = .ok (.aload_n 0, 1) := by decide +kernel
theorem dX12_standing_6 : decode cX12_standing 6 = .ok (.invokevirtual 73, 3) := by decide +kernel
theorem dX12_standing_9 : decode cX12_standing 9 = .ok (.if_icmp .ge 27, 3) := by decide +kernel
theorem dX12_standing_12 : decode cX12_standing 12 = .ok (.iload_n 1, 1) := by decide +kernel
theorem dX12_standing_13 : decode cX12_standing 13 = .ok (.aload_n 0, 1) := by decide +kernel
theorem dX12_standing_14 : decode cX12_standing 14 = .ok (.iload_n 2, 1) := by decide +kernel
theorem dX12_standing_15 : decode cX12_standing 15 = .ok (.invokevirtual 76, 3) := by decide +kernel
theorem dX12_standing_18 : decode cX12_standing 18 = .ok (.ifCond .eq 7, 3) := by decide +kernel
theorem dX12_standing_21 : decode cX12_standing 21 = .ok (.iconst 0, 1) := by decide +kernel
theorem dX12_standing_22 : decode cX12_standing 22 = .ok (.goto 6, 3) := by decide +kernel
theorem dX12_standing_25 : decode cX12_standing 25 = .ok (.iconst 1, 1) := by decide +kernel
theorem dX12_standing_26 : decode cX12_standing 26 = .ok (.iload_n 2, 1) := by decide +kernel
theorem dX12_standing_27 : decode cX12_standing 27 = .ok (.ishl, 1) := by decide +kernel
theorem dX12_standing_28 : decode cX12_standing 28 = .ok (.ior, 1) := by decide +kernel
theorem dX12_standing_29 : decode cX12_standing 29 = .ok (.istore_n 1, 1) := by decide +kernel
theorem dX12_standing_30 : decode cX12_standing 30 = .ok (.iinc 2 1, 3) := by decide +kernel
theorem dX12_standing_33 : decode cX12_standing 33 = .ok (.goto (-29), 3) := by decide +kernel
theorem dX12_standing_36 : decode cX12_standing 36 = .ok (.iload_n 1, 1) := by decide +kernel
theorem dX12_standing_37 : decode cX12_standing 37 = .ok (.ireturn, 1) := by decide +kernel
theorem dX12_isOf_0 : decode cX12_isOf 0 = .ok (.aload_n 0, 1) := by decide +kernel
theorem dX12_isOf_1 : decode cX12_isOf 1 = .ok (.iload_n 1, 1) := by decide +kernel
theorem dX12_isOf_2 : decode cX12_isOf 2 = .ok (.iconst 0, 1) := by decide +kernel
theorem dX12_isOf_3 : decode cX12_isOf 3 = .ok (.invokevirtual 70, 3) := by decide +kernel
theorem dX12_isOf_6 : decode cX12_isOf 6 = .ok (.iload_n 2, 1) := by decide +kernel
theorem dX12_isOf_7 : decode cX12_isOf 7 = .ok (.if_icmp .eq 13, 3) := by decide +kernel
theorem dX12_isOf_10 : decode cX12_isOf 10 = .ok (.aload_n 0, 1) := by decide +kernel
theorem dX12_isOf_11 : decode cX12_isOf 11 = .ok (.iload_n 1, 1) := by decide +kernel
theorem dX12_isOf_12 : decode cX12_isOf 12 = .ok (.iconst 1, 1) := by decide +kernel
theorem dX12_isOf_13 : decode cX12_isOf 13 = .ok (.invokevirtual 70, 3) := by decide +kernel
theorem dX12_isOf_16 : decode cX12_isOf 16 = .ok (.iload_n 2, 1) := by decide +kernel
theorem dX12_isOf_17 : decode cX12_isOf 17 = .ok (.if_icmp .ne 7, 3) := by decide +kernel
theorem dX12_isOf_20 : decode cX12_isOf 20 = .ok (.iconst 1, 1) := by decide +kernel
theorem dX12_isOf_21 : decode cX12_isOf 21 = .ok (.goto 4, 3) := by decide +kernel
theorem dX12_isOf_24 : decode cX12_isOf 24 = .ok (.iconst 0, 1) := by decide +kernel
theorem dX12_isOf_25 : decode cX12_isOf 25 = .ok (.ireturn, 1) := by decide +kernel
theorem dX12_ofSlight_0 : decode cX12_ofSlight 0 = .ok (.aload_n 0, 1) := by decide +kernel
theorem dX12_ofSlight_1 : decode cX12_ofSlight 1 = .ok (.getfield 13, 3) := by decide +kernel
theorem dX12_ofSlight_4 : decode cX12_ofSlight 4 = .ok (.bipush 14, 2) := by decide +kernel
theorem dX12_ofSlight_6 : decode cX12_ofSlight 6 = .ok (.iconst 2, 1) := by decide +kernel
theorem dX12_ofSlight_7 : decode cX12_ofSlight 7 = .ok (.aload_n 0, 1) := by decide +kernel
theorem dX12_ofSlight_8 : decode cX12_ofSlight 8 = .ok (.iload_n 1, 1) := by decide +kernel
theorem dX12_ofSlight_9 : decode cX12_ofSlight 9 = .ok (.iconst 2, 1) := by decide +kernel
theorem dX12_ofSlight_10 : decode cX12_ofSlight 10 = .ok (.invokevirtual 70, 3) := by decide +kernel
theorem dX12_ofSlight_13 : decode cX12_ofSlight 13 = .ok (.imul, 1) := by decide +kernel
theorem dX12_ofSlight_14 : decode cX12_ofSlight 14 = .ok (.iadd, 1) := by decide +kernel
theorem dX12_ofSlight_15 : decode cX12_ofSlight 15 = .ok (.iload_n 2, 1) := by decide +kernel
theorem dX12_ofSlight_16 : decode cX12_ofSlight 16 = .ok (.iadd, 1) := by decide +kernel
theorem dX12_ofSlight_17 : decode cX12_ofSlight 17 = .ok (.iaload, 1) := by decide +kernel
theorem dX12_ofSlight_18 : decode cX12_ofSlight 18 = .ok (.ireturn, 1) := by decide +kernel
theorem dX12_iceOf_0 : decode cX12_iceOf 0 = .ok (.iconst 0, 1) := by decide +kernel
theorem dX12_iceOf_1 : decode cX12_iceOf 1 = .ok (.istore_n 2, 1) := by decide +kernel
theorem dX12_iceOf_2 : decode cX12_iceOf 2 = .ok (.iconst 0, 1) := by decide +kernel
theorem dX12_iceOf_3 : decode cX12_iceOf 3 = .ok (.istore_n 3, 1) := by decide +kernel
theorem dX12_iceOf_4 : decode cX12_iceOf 4 = .ok (.iload_n 3, 1) := by decide +kernel
theorem dX12_iceOf_5 : decode cX12_iceOf 5 = .ok (.aload_n 0, 1) := by decide +kernel
theorem dX12_iceOf_6 : decode cX12_iceOf 6 = .ok (.invokevirtual 73, 3) := by decide +kernel
theorem dX12_iceOf_9 : decode cX12_iceOf 9 = .ok (.if_icmp .ge 30, 3) := by decide +kernel
theorem dX12_iceOf_12 : decode cX12_iceOf 12 = .ok (.iload_n 2, 1) := by decide +kernel
theorem dX12_iceOf_13 : decode cX12_iceOf 13 = .ok (.iload_n 1, 1) := by decide +kernel
theorem dX12_iceOf_14 : decode cX12_iceOf 14 = .ok (.iload_n 3, 1) := by decide +kernel
theorem dX12_iceOf_15 : decode cX12_iceOf 15 = .ok (.invokestatic 80, 3) := by decide +kernel
theorem dX12_iceOf_18 : decode cX12_iceOf 18 = .ok (.ifCond .eq 12, 3) := by decide +kernel
theorem dX12_iceOf_21 : decode cX12_iceOf 21 = .ok (.aload_n 0, 1) := by decide +kernel
theorem dX12_iceOf_22 : decode cX12_iceOf 22 = .ok (.iload_n 3, 1) := by decide +kernel
theorem dX12_iceOf_23 : decode cX12_iceOf 23 = .ok (.iconst 4, 1) := by decide +kernel
theorem dX12_iceOf_24 : decode cX12_iceOf 24 = .ok (.invokevirtual 70, 3) := by decide +kernel
theorem dX12_iceOf_27 : decode cX12_iceOf 27 = .ok (.goto 4, 3) := by decide +kernel
theorem dX12_iceOf_30 : decode cX12_iceOf 30 = .ok (.iconst 0, 1) := by decide +kernel
theorem dX12_iceOf_31 : decode cX12_iceOf 31 = .ok (.iadd, 1) := by decide +kernel
theorem dX12_iceOf_32 : decode cX12_iceOf 32 = .ok (.istore_n 2, 1) := by decide +kernel
theorem dX12_iceOf_33 : decode cX12_iceOf 33 = .ok (.iinc 3 1, 3) := by decide +kernel
theorem dX12_iceOf_36 : decode cX12_iceOf 36 = .ok (.goto (-32), 3) := by decide +kernel
theorem dX12_iceOf_39 : decode cX12_iceOf 39 = .ok (.iload_n 2, 1) := by decide +kernel
theorem dX12_iceOf_40 : decode cX12_iceOf 40 = .ok (.ireturn, 1) := by decide +kernel
theorem dX12_noFamily_0 : decode cX12_noFamily 0 = .ok (.iload_n 1, 1) := by decide +kernel
theorem dX12_noFamily_1 : decode cX12_noFamily 1 = .ok (.iconst 0, 1) := by decide +kernel
theorem dX12_noFamily_2 : decode cX12_noFamily 2 = .ok (.aload_n 0, 1) := by decide +kernel
theorem dX12_noFamily_3 : decode cX12_noFamily 3 = .ok (.invokevirtual 59, 3) := by decide +kernel
theorem dX12_noFamily_6 : decode cX12_noFamily 6 = .ok (.iconst 1, 1) := by decide +kernel
theorem dX12_noFamily_7 : decode cX12_noFamily 7 = .ok (.isub, 1) := by decide +kernel
theorem dX12_noFamily_8 : decode cX12_noFamily 8 = .ok (.invokestatic 84, 3) := by decide +kernel
theorem dX12_noFamily_11 : decode cX12_noFamily 11 = .ok (.ifCond .ne 7, 3) := by decide +kernel
theorem dX12_noFamily_14 : decode cX12_noFamily 14 = .ok (.iconst 1, 1) := by decide +kernel
theorem dX12_noFamily_15 : decode cX12_noFamily 15 = .ok (.goto 4, 3) := by decide +kernel
theorem dX12_noFamily_18 : decode cX12_noFamily 18 = .ok (.iconst 0, 1) := by decide +kernel
theorem dX12_noFamily_19 : decode cX12_noFamily 19 = .ok (.ireturn, 1) := by decide +kernel
theorem dX12_noGrudge_0 : decode cX12_noGrudge 0 = .ok (.iload_n 1, 1) := by decide +kernel
theorem dX12_noGrudge_1 : decode cX12_noGrudge 1 = .ok (.iconst 0, 1) := by decide +kernel
theorem dX12_noGrudge_2 : decode cX12_noGrudge 2 = .ok (.aload_n 0, 1) := by decide +kernel
theorem dX12_noGrudge_3 : decode cX12_noGrudge 3 = .ok (.invokevirtual 73, 3) := by decide +kernel
theorem dX12_noGrudge_6 : decode cX12_noGrudge 6 = .ok (.iconst 1, 1) := by decide +kernel
theorem dX12_noGrudge_7 : decode cX12_noGrudge 7 = .ok (.isub, 1) := by decide +kernel
theorem dX12_noGrudge_8 : decode cX12_noGrudge 8 = .ok (.invokestatic 84, 3) := by decide +kernel
theorem dX12_noGrudge_11 : decode cX12_noGrudge 11 = .ok (.ifCond .ne 7, 3) := by decide +kernel
theorem dX12_noGrudge_14 : decode cX12_noGrudge 14 = .ok (.iconst 1, 1) := by decide +kernel
theorem dX12_noGrudge_15 : decode cX12_noGrudge 15 = .ok (.goto 4, 3) := by decide +kernel
theorem dX12_noGrudge_18 : decode cX12_noGrudge 18 = .ok (.iconst 0, 1) := by decide +kernel
theorem dX12_noGrudge_19 : decode cX12_noGrudge 19 = .ok (.ireturn, 1) := by decide +kernel
theorem dX12_noSlight_0 : decode cX12_noSlight 0 = .ok (.iload_n 0, 1) := by decide +kernel
theorem dX12_noSlight_1 : decode cX12_noSlight 1 = .ok (.iconst 0, 1) := by decide +kernel
theorem dX12_noSlight_2 : decode cX12_noSlight 2 = .ok (.bipush 7, 2) := by decide +kernel
theorem dX12_noSlight_4 : decode cX12_noSlight 4 = .ok (.invokestatic 84, 3) := by decide +kernel
theorem dX12_noSlight_7 : decode cX12_noSlight 7 = .ok (.ifCond .ne 7, 3) := by decide +kernel
theorem dX12_noSlight_10 : decode cX12_noSlight 10 = .ok (.iconst 1, 1) := by decide +kernel
theorem dX12_noSlight_11 : decode cX12_noSlight 11 = .ok (.goto 4, 3) := by decide +kernel
theorem dX12_noSlight_14 : decode cX12_noSlight 14 = .ok (.iconst 0, 1) := by decide +kernel
theorem dX12_noSlight_15 : decode cX12_noSlight 15 = .ok (.ireturn, 1) := by decide +kernel
theorem dX12_heatNow_0 : decode cX12_heatNow 0 = .ok (.aload_n 0, 1) := by decide +kernel
theorem dX12_heatNow_1 : decode cX12_heatNow 1 = .ok (.getfield 13, 3) := by decide +kernel
theorem dX12_heatNow_4 : decode cX12_heatNow 4 = .ok (.bipush 10, 2) := by decide +kernel
theorem dX12_heatNow_6 : decode cX12_heatNow 6 = .ok (.aload_n 0, 1) := by decide +kernel
theorem dX12_heatNow_7 : decode cX12_heatNow 7 = .ok (.getfield 13, 3) := by decide +kernel
theorem dX12_heatNow_10 : decode cX12_heatNow 10 = .ok (.iconst 4, 1) := by decide +kernel
theorem dX12_heatNow_11 : decode cX12_heatNow 11 = .ok (.iaload, 1) := by decide +kernel
theorem dX12_heatNow_12 : decode cX12_heatNow 12 = .ok (.iconst 4, 1) := by decide +kernel
theorem dX12_heatNow_13 : decode cX12_heatNow 13 = .ok (.irem, 1) := by decide +kernel
theorem dX12_heatNow_14 : decode cX12_heatNow 14 = .ok (.iadd, 1) := by decide +kernel
theorem dX12_heatNow_15 : decode cX12_heatNow 15 = .ok (.iaload, 1) := by decide +kernel
theorem dX12_heatNow_16 : decode cX12_heatNow 16 = .ok (.ireturn, 1) := by decide +kernel
theorem dX12_drawn_0 : decode cX12_drawn 0 = .ok (.aload_n 0, 1) := by decide +kernel
theorem dX12_drawn_1 : decode cX12_drawn 1 = .ok (.getfield 13, 3) := by decide +kernel
theorem dX12_drawn_4 : decode cX12_drawn 4 = .ok (.bipush 9, 2) := by decide +kernel
theorem dX12_drawn_6 : decode cX12_drawn 6 = .ok (.ldc 88, 2) := by decide +kernel
theorem dX12_drawn_8 : decode cX12_drawn 8 = .ok (.aload_n 0, 1) := by decide +kernel
theorem dX12_drawn_9 : decode cX12_drawn 9 = .ok (.getfield 13, 3) := by decide +kernel
theorem dX12_drawn_12 : decode cX12_drawn 12 = .ok (.bipush 9, 2) := by decide +kernel
theorem dX12_drawn_14 : decode cX12_drawn 14 = .ok (.iaload, 1) := by decide +kernel
theorem dX12_drawn_15 : decode cX12_drawn 15 = .ok (.imul, 1) := by decide +kernel
theorem dX12_drawn_16 : decode cX12_drawn 16 = .ok (.sipush 12345, 3) := by decide +kernel
theorem dX12_drawn_19 : decode cX12_drawn 19 = .ok (.iadd, 1) := by decide +kernel
theorem dX12_drawn_20 : decode cX12_drawn 20 = .ok (.iastore, 1) := by decide +kernel
theorem dX12_drawn_21 : decode cX12_drawn 21 = .ok (.aload_n 0, 1) := by decide +kernel
theorem dX12_drawn_22 : decode cX12_drawn 22 = .ok (.getfield 13, 3) := by decide +kernel
theorem dX12_drawn_25 : decode cX12_drawn 25 = .ok (.bipush 9, 2) := by decide +kernel
theorem dX12_drawn_27 : decode cX12_drawn 27 = .ok (.iaload, 1) := by decide +kernel
theorem dX12_drawn_28 : decode cX12_drawn 28 = .ok (.bipush 16, 2) := by decide +kernel
theorem dX12_drawn_30 : decode cX12_drawn 30 = .ok (.ishr, 1) := by decide +kernel
theorem dX12_drawn_31 : decode cX12_drawn 31 = .ok (.sipush 32767, 3) := by decide +kernel
theorem dX12_drawn_34 : decode cX12_drawn 34 = .ok (.iand, 1) := by decide +kernel
theorem dX12_drawn_35 : decode cX12_drawn 35 = .ok (.iload_n 1, 1) := by decide +kernel
theorem dX12_drawn_36 : decode cX12_drawn 36 = .ok (.irem, 1) := by decide +kernel
theorem dX12_drawn_37 : decode cX12_drawn 37 = .ok (.ireturn, 1) := by decide +kernel
theorem dX12_feed_0 : decode cX12_feed 0 = .ok (.aload_n 0, 1) := by decide +kernel
theorem dX12_feed_1 : decode cX12_feed 1 = .ok (.iconst 0, 1) := by decide +kernel
theorem dX12_feed_2 : decode cX12_feed 2 = .ok (.putfield 3, 3) := by decide +kernel
theorem dX12_feed_5 : decode cX12_feed 5 = .ok (.aload_n 0, 1) := by decide +kernel
theorem dX12_feed_6 : decode cX12_feed 6 = .ok (.getfield 89, 3) := by decide +kernel
theorem dX12_feed_9 : decode cX12_feed 9 = .ok (.bipush 20, 2) := by decide +kernel
theorem dX12_feed_11 : decode cX12_feed 11 = .ok (.iadd, 1) := by decide +kernel
theorem dX12_feed_12 : decode cX12_feed 12 = .ok (.sipush 400, 3) := by decide +kernel
theorem dX12_feed_15 : decode cX12_feed 15 = .ok (.if_icmp .le 5, 3) := by decide +kernel
theorem dX12_feed_18 : decode cX12_feed 18 = .ok (.iconst (-1), 1) := by decide +kernel
theorem dX12_feed_19 : decode cX12_feed 19 = .ok (.ireturn, 1) := by decide +kernel
theorem dX12_feed_20 : decode cX12_feed 20 = .ok (.aload_n 0, 1) := by decide +kernel
theorem dX12_feed_21 : decode cX12_feed 21 = .ok (.getfield 36, 3) := by decide +kernel
theorem dX12_feed_24 : decode cX12_feed 24 = .ok (.iconst 0, 1) := by decide +kernel
theorem dX12_feed_25 : decode cX12_feed 25 = .ok (.iload_n 1, 1) := by decide +kernel
theorem dX12_feed_26 : decode cX12_feed 26 = .ok (.iastore, 1) := by decide +kernel
theorem dX12_feed_27 : decode cX12_feed 27 = .ok (.aload_n 0, 1) := by decide +kernel
theorem dX12_feed_28 : decode cX12_feed 28 = .ok (.getfield 36, 3) := by decide +kernel
theorem dX12_feed_31 : decode cX12_feed 31 = .ok (.iconst 1, 1) := by decide +kernel
theorem dX12_feed_32 : decode cX12_feed 32 = .ok (.iload_n 2, 1) := by decide +kernel
theorem dX12_feed_33 : decode cX12_feed 33 = .ok (.iastore, 1) := by decide +kernel
theorem dX12_feed_34 : decode cX12_feed 34 = .ok (.aload_n 0, 1) := by decide +kernel
theorem dX12_feed_35 : decode cX12_feed 35 = .ok (.getfield 36, 3) := by decide +kernel
theorem dX12_feed_38 : decode cX12_feed 38 = .ok (.iconst 2, 1) := by decide +kernel
theorem dX12_feed_39 : decode cX12_feed 39 = .ok (.iload_n 3, 1) := by decide +kernel
theorem dX12_feed_40 : decode cX12_feed 40 = .ok (.iastore, 1) := by decide +kernel
theorem dX12_feed_41 : decode cX12_feed 41 = .ok (.aload_n 0, 1) := by decide +kernel
theorem dX12_feed_42 : decode cX12_feed 42 = .ok (.getfield 36, 3) := by decide +kernel
theorem dX12_feed_45 : decode cX12_feed 45 = .ok (.iconst 3, 1) := by decide +kernel
theorem dX12_feed_46 : decode cX12_feed 46 = .ok (.iload 4, 2) := by decide +kernel
theorem dX12_feed_48 : decode cX12_feed 48 = .ok (.iastore, 1) := by decide +kernel
theorem dX12_feed_49 : decode cX12_feed 49 = .ok (.aload_n 0, 1) := by decide +kernel
theorem dX12_feed_50 : decode cX12_feed 50 = .ok (.getfield 36, 3) := by decide +kernel
theorem dX12_feed_53 : decode cX12_feed 53 = .ok (.iconst 4, 1) := by decide +kernel
theorem dX12_feed_54 : decode cX12_feed 54 = .ok (.iload 5, 2) := by decide +kernel
theorem dX12_feed_56 : decode cX12_feed 56 = .ok (.iastore, 1) := by decide +kernel
theorem dX12_feed_57 : decode cX12_feed 57 = .ok (.iconst 0, 1) := by decide +kernel
theorem dX12_feed_58 : decode cX12_feed 58 = .ok (.istore 6, 2) := by decide +kernel
theorem dX12_feed_60 : decode cX12_feed 60 = .ok (.iload 6, 2) := by decide +kernel
theorem dX12_feed_62 : decode cX12_feed 62 = .ok (.bipush 20, 2) := by decide +kernel
theorem dX12_feed_64 : decode cX12_feed 64 = .ok (.if_icmp .ge 42, 3) := by decide +kernel
theorem dX12_feed_67 : decode cX12_feed 67 = .ok (.aload_n 0, 1) := by decide +kernel
theorem dX12_feed_68 : decode cX12_feed 68 = .ok (.getfield 29, 3) := by decide +kernel
theorem dX12_feed_71 : decode cX12_feed 71 = .ok (.aload_n 0, 1) := by decide +kernel
theorem dX12_feed_72 : decode cX12_feed 72 = .ok (.getfield 89, 3) := by decide +kernel
theorem dX12_feed_75 : decode cX12_feed 75 = .ok (.iload 6, 2) := by decide +kernel
theorem dX12_feed_77 : decode cX12_feed 77 = .ok (.iadd, 1) := by decide +kernel
theorem dX12_feed_78 : decode cX12_feed 78 = .ok (.aload_n 0, 1) := by decide +kernel
theorem dX12_feed_79 : decode cX12_feed 79 = .ok (.getfield 36, 3) := by decide +kernel
theorem dX12_feed_82 : decode cX12_feed 82 = .ok (.iload 6, 2) := by decide +kernel
theorem dX12_feed_84 : decode cX12_feed 84 = .ok (.iconst 4, 1) := by decide +kernel
theorem dX12_feed_85 : decode cX12_feed 85 = .ok (.idiv, 1) := by decide +kernel
theorem dX12_feed_86 : decode cX12_feed 86 = .ok (.iaload, 1) := by decide +kernel
theorem dX12_feed_87 : decode cX12_feed 87 = .ok (.bipush 24, 2) := by decide +kernel
theorem dX12_feed_89 : decode cX12_feed 89 = .ok (.bipush 8, 2) := by decide +kernel
theorem dX12_feed_91 : decode cX12_feed 91 = .ok (.iload 6, 2) := by decide +kernel
theorem dX12_feed_93 : decode cX12_feed 93 = .ok (.iconst 4, 1) := by decide +kernel
theorem dX12_feed_94 : decode cX12_feed 94 = .ok (.irem, 1) := by decide +kernel
theorem dX12_feed_95 : decode cX12_feed 95 = .ok (.imul, 1) := by decide +kernel
theorem dX12_feed_96 : decode cX12_feed 96 = .ok (.isub, 1) := by decide +kernel
theorem dX12_feed_97 : decode cX12_feed 97 = .ok (.ishr, 1) := by decide +kernel
theorem dX12_feed_98 : decode cX12_feed 98 = .ok (.i2b, 1) := by decide +kernel
theorem dX12_feed_99 : decode cX12_feed 99 = .ok (.bastore, 1) := by decide +kernel
theorem dX12_feed_100 : decode cX12_feed 100 = .ok (.iinc 6 1, 3) := by decide +kernel
theorem dX12_feed_103 : decode cX12_feed 103 = .ok (.goto (-43), 3) := by decide +kernel
theorem dX12_feed_106 : decode cX12_feed 106 = .ok (.aload_n 0, 1) := by decide +kernel
theorem dX12_feed_107 : decode cX12_feed 107 = .ok (.dup, 1) := by decide +kernel
theorem dX12_feed_108 : decode cX12_feed 108 = .ok (.getfield 89, 3) := by decide +kernel
theorem dX12_feed_111 : decode cX12_feed 111 = .ok (.bipush 20, 2) := by decide +kernel
theorem dX12_feed_113 : decode cX12_feed 113 = .ok (.iadd, 1) := by decide +kernel
theorem dX12_feed_114 : decode cX12_feed 114 = .ok (.putfield 89, 3) := by decide +kernel
theorem dX12_feed_117 : decode cX12_feed 117 = .ok (.aload_n 0, 1) := by decide +kernel
theorem dX12_feed_118 : decode cX12_feed 118 = .ok (.getfield 89, 3) := by decide +kernel
theorem dX12_feed_121 : decode cX12_feed 121 = .ok (.ireturn, 1) := by decide +kernel
theorem dX12_end_0 : decode cX12_end 0 = .ok (.aload_n 0, 1) := by decide +kernel
theorem dX12_end_1 : decode cX12_end 1 = .ok (.iconst 0, 1) := by decide +kernel
theorem dX12_end_2 : decode cX12_end 2 = .ok (.putfield 3, 3) := by decide +kernel
theorem dX12_end_5 : decode cX12_end 5 = .ok (.iload_n 1, 1) := by decide +kernel
theorem dX12_end_6 : decode cX12_end 6 = .ok (.ifCond .lt 11, 3) := by decide +kernel
theorem dX12_end_9 : decode cX12_end 9 = .ok (.iload_n 1, 1) := by decide +kernel
theorem dX12_end_10 : decode cX12_end 10 = .ok (.aload_n 0, 1) := by decide +kernel
theorem dX12_end_11 : decode cX12_end 11 = .ok (.getfield 89, 3) := by decide +kernel
theorem dX12_end_14 : decode cX12_end 14 = .ok (.if_icmp .le 5, 3) := by decide +kernel
theorem dX12_end_17 : decode cX12_end 17 = .ok (.iconst 0, 1) := by decide +kernel
theorem dX12_end_18 : decode cX12_end 18 = .ok (.ireturn, 1) := by decide +kernel
theorem dX12_end_19 : decode cX12_end 19 = .ok (.aload_n 0, 1) := by decide +kernel
theorem dX12_end_20 : decode cX12_end 20 = .ok (.iload_n 1, 1) := by decide +kernel
theorem dX12_end_21 : decode cX12_end 21 = .ok (.putfield 89, 3) := by decide +kernel
theorem dX12_end_24 : decode cX12_end 24 = .ok (.iconst 1, 1) := by decide +kernel
theorem dX12_end_25 : decode cX12_end 25 = .ok (.ireturn, 1) := by decide +kernel
theorem dX12_isAt_0 : decode cX12_isAt 0 = .ok (.aload_n 0, 1) := by decide +kernel
theorem dX12_isAt_1 : decode cX12_isAt 1 = .ok (.getfield 92, 3) := by decide +kernel
theorem dX12_isAt_4 : decode cX12_isAt 4 = .ok (.aload_n 0, 1) := by decide +kernel
theorem dX12_isAt_5 : decode cX12_isAt 5 = .ok (.getfield 95, 3) := by decide +kernel
theorem dX12_isAt_8 : decode cX12_isAt 8 = .ok (.if_icmp .ge 33, 3) := by decide +kernel
theorem dX12_isAt_11 : decode cX12_isAt 11 = .ok (.aload_n 0, 1) := by decide +kernel
theorem dX12_isAt_12 : decode cX12_isAt 12 = .ok (.getfield 29, 3) := by decide +kernel
theorem dX12_isAt_15 : decode cX12_isAt 15 = .ok (.aload_n 0, 1) := by decide +kernel
theorem dX12_isAt_16 : decode cX12_isAt 16 = .ok (.getfield 92, 3) := by decide +kernel
theorem dX12_isAt_19 : decode cX12_isAt 19 = .ok (.baload, 1) := by decide +kernel
theorem dX12_isAt_20 : decode cX12_isAt 20 = .ok (.iload_n 1, 1) := by decide +kernel
theorem dX12_isAt_21 : decode cX12_isAt 21 = .ok (.if_icmp .lt 20, 3) := by decide +kernel
theorem dX12_isAt_24 : decode cX12_isAt 24 = .ok (.aload_n 0, 1) := by decide +kernel
theorem dX12_isAt_25 : decode cX12_isAt 25 = .ok (.getfield 29, 3) := by decide +kernel
theorem dX12_isAt_28 : decode cX12_isAt 28 = .ok (.aload_n 0, 1) := by decide +kernel
theorem dX12_isAt_29 : decode cX12_isAt 29 = .ok (.getfield 92, 3) := by decide +kernel
theorem dX12_isAt_32 : decode cX12_isAt 32 = .ok (.baload, 1) := by decide +kernel
theorem dX12_isAt_33 : decode cX12_isAt 33 = .ok (.iload_n 2, 1) := by decide +kernel
theorem dX12_isAt_34 : decode cX12_isAt 34 = .ok (.if_icmp .gt 7, 3) := by decide +kernel
theorem dX12_isAt_37 : decode cX12_isAt 37 = .ok (.iconst 1, 1) := by decide +kernel
theorem dX12_isAt_38 : decode cX12_isAt 38 = .ok (.goto 4, 3) := by decide +kernel
theorem dX12_isAt_41 : decode cX12_isAt 41 = .ok (.iconst 0, 1) := by decide +kernel
theorem dX12_isAt_42 : decode cX12_isAt 42 = .ok (.ireturn, 1) := by decide +kernel
theorem dX12_blanks_0 : decode cX12_blanks 0 = .ok (.aload_n 0, 1) := by decide +kernel
theorem dX12_blanks_1 : decode cX12_blanks 1 = .ok (.bipush 32, 2) := by decide +kernel
theorem dX12_blanks_3 : decode cX12_blanks 3 = .ok (.bipush 32, 2) := by decide +kernel
theorem dX12_blanks_5 : decode cX12_blanks 5 = .ok (.invokevirtual 98, 3) := by decide +kernel
theorem dX12_blanks_8 : decode cX12_blanks 8 = .ok (.ifCond .eq 16, 3) := by decide +kernel
theorem dX12_blanks_11 : decode cX12_blanks 11 = .ok (.aload_n 0, 1) := by decide +kernel
theorem dX12_blanks_12 : decode cX12_blanks 12 = .ok (.dup, 1) := by decide +kernel
theorem dX12_blanks_13 : decode cX12_blanks 13 = .ok (.getfield 92, 3) := by decide +kernel
theorem dX12_blanks_16 : decode cX12_blanks 16 = .ok (.iconst 1, 1) := by decide +kernel
theorem dX12_blanks_17 : decode cX12_blanks 17 = .ok (.iadd, 1) := by decide +kernel
theorem dX12_blanks_18 : decode cX12_blanks 18 = .ok (.putfield 92, 3) := by decide +kernel
theorem dX12_blanks_21 : decode cX12_blanks 21 = .ok (.goto (-21), 3) := by decide +kernel
theorem dX12_blanks_24 : decode cX12_blanks 24 = .ok (.aload_n 0, 1) := by decide +kernel
theorem dX12_blanks_25 : decode cX12_blanks 25 = .ok (.aload_n 0, 1) := by decide +kernel
theorem dX12_blanks_26 : decode cX12_blanks 26 = .ok (.getfield 92, 3) := by decide +kernel
theorem dX12_blanks_29 : decode cX12_blanks 29 = .ok (.putfield 101, 3) := by decide +kernel
theorem dX12_blanks_32 : decode cX12_blanks 32 = .ok (.return_, 1) := by decide +kernel
theorem dX12_letters_0 : decode cX12_letters 0 = .ok (.aload_n 0, 1) := by decide +kernel
theorem dX12_letters_1 : decode cX12_letters 1 = .ok (.invokevirtual 104, 3) := by decide +kernel
theorem dX12_letters_4 : decode cX12_letters 4 = .ok (.aload_n 0, 1) := by decide +kernel
theorem dX12_letters_5 : decode cX12_letters 5 = .ok (.bipush 97, 2) := by decide +kernel
theorem dX12_letters_7 : decode cX12_letters 7 = .ok (.bipush 122, 2) := by decide +kernel
theorem dX12_letters_9 : decode cX12_letters 9 = .ok (.invokevirtual 98, 3) := by decide +kernel
theorem dX12_letters_12 : decode cX12_letters 12 = .ok (.ifCond .eq 16, 3) := by decide +kernel
theorem dX12_letters_15 : decode cX12_letters 15 = .ok (.aload_n 0, 1) := by decide +kernel
theorem dX12_letters_16 : decode cX12_letters 16 = .ok (.dup, 1) := by decide +kernel
theorem dX12_letters_17 : decode cX12_letters 17 = .ok (.getfield 92, 3) := by decide +kernel
theorem dX12_letters_20 : decode cX12_letters 20 = .ok (.iconst 1, 1) := by decide +kernel
theorem dX12_letters_21 : decode cX12_letters 21 = .ok (.iadd, 1) := by decide +kernel
theorem dX12_letters_22 : decode cX12_letters 22 = .ok (.putfield 92, 3) := by decide +kernel
theorem dX12_letters_25 : decode cX12_letters 25 = .ok (.goto (-21), 3) := by decide +kernel
theorem dX12_letters_28 : decode cX12_letters 28 = .ok (.return_, 1) := by decide +kernel
theorem dX12_isWord_0 : decode cX12_isWord 0 = .ok (.aload_n 0, 1) := by decide +kernel
theorem dX12_isWord_1 : decode cX12_isWord 1 = .ok (.getfield 92, 3) := by decide +kernel
theorem dX12_isWord_4 : decode cX12_isWord 4 = .ok (.aload_n 0, 1) := by decide +kernel
theorem dX12_isWord_5 : decode cX12_isWord 5 = .ok (.getfield 101, 3) := by decide +kernel
theorem dX12_isWord_8 : decode cX12_isWord 8 = .ok (.isub, 1) := by decide +kernel
theorem dX12_isWord_9 : decode cX12_isWord 9 = .ok (.aload_n 1, 1) := by decide +kernel
theorem dX12_isWord_10 : decode cX12_isWord 10 = .ok (.invokevirtual 107, 3) := by decide +kernel
theorem dX12_isWord_13 : decode cX12_isWord 13 = .ok (.if_icmp .ne 7, 3) := by decide +kernel
theorem dX12_isWord_16 : decode cX12_isWord 16 = .ok (.iconst 1, 1) := by decide +kernel
theorem dX12_isWord_17 : decode cX12_isWord 17 = .ok (.goto 4, 3) := by decide +kernel
theorem dX12_isWord_20 : decode cX12_isWord 20 = .ok (.iconst 0, 1) := by decide +kernel
theorem dX12_isWord_21 : decode cX12_isWord 21 = .ok (.istore_n 2, 1) := by decide +kernel
theorem dX12_isWord_22 : decode cX12_isWord 22 = .ok (.iconst 0, 1) := by decide +kernel
theorem dX12_isWord_23 : decode cX12_isWord 23 = .ok (.istore_n 3, 1) := by decide +kernel
theorem dX12_isWord_24 : decode cX12_isWord 24 = .ok (.iload_n 2, 1) := by decide +kernel
theorem dX12_isWord_25 : decode cX12_isWord 25 = .ok (.ifCond .eq 42, 3) := by decide +kernel
theorem dX12_isWord_28 : decode cX12_isWord 28 = .ok (.iload_n 3, 1) := by decide +kernel
theorem dX12_isWord_29 : decode cX12_isWord 29 = .ok (.aload_n 1, 1) := by decide +kernel
theorem dX12_isWord_30 : decode cX12_isWord 30 = .ok (.invokevirtual 107, 3) := by decide +kernel
theorem dX12_isWord_33 : decode cX12_isWord 33 = .ok (.if_icmp .ge 34, 3) := by decide +kernel
theorem dX12_isWord_36 : decode cX12_isWord 36 = .ok (.aload_n 0, 1) := by decide +kernel
theorem dX12_isWord_37 : decode cX12_isWord 37 = .ok (.getfield 29, 3) := by decide +kernel
theorem dX12_isWord_40 : decode cX12_isWord 40 = .ok (.aload_n 0, 1) := by decide +kernel
theorem dX12_isWord_41 : decode cX12_isWord 41 = .ok (.getfield 101, 3) := by decide +kernel
theorem dX12_isWord_44 : decode cX12_isWord 44 = .ok (.iload_n 3, 1) := by decide +kernel
theorem dX12_isWord_45 : decode cX12_isWord 45 = .ok (.iadd, 1) := by decide +kernel
theorem dX12_isWord_46 : decode cX12_isWord 46 = .ok (.baload, 1) := by decide +kernel
theorem dX12_isWord_47 : decode cX12_isWord 47 = .ok (.aload_n 1, 1) := by decide +kernel
theorem dX12_isWord_48 : decode cX12_isWord 48 = .ok (.iload_n 3, 1) := by decide +kernel
theorem dX12_isWord_49 : decode cX12_isWord 49 = .ok (.invokevirtual 112, 3) := by decide +kernel
theorem dX12_isWord_52 : decode cX12_isWord 52 = .ok (.if_icmp .ne 7, 3) := by decide +kernel
theorem dX12_isWord_55 : decode cX12_isWord 55 = .ok (.iconst 1, 1) := by decide +kernel
theorem dX12_isWord_56 : decode cX12_isWord 56 = .ok (.goto 4, 3) := by decide +kernel
theorem dX12_isWord_59 : decode cX12_isWord 59 = .ok (.iconst 0, 1) := by decide +kernel
theorem dX12_isWord_60 : decode cX12_isWord 60 = .ok (.istore_n 2, 1) := by decide +kernel
theorem dX12_isWord_61 : decode cX12_isWord 61 = .ok (.iinc 3 1, 3) := by decide +kernel
theorem dX12_isWord_64 : decode cX12_isWord 64 = .ok (.goto (-40), 3) := by decide +kernel
theorem dX12_isWord_67 : decode cX12_isWord 67 = .ok (.iload_n 2, 1) := by decide +kernel
theorem dX12_isWord_68 : decode cX12_isWord 68 = .ok (.ireturn, 1) := by decide +kernel
theorem dX12_passes_0 : decode cX12_passes 0 = .ok (.aload_n 0, 1) := by decide +kernel
theorem dX12_passes_1 : decode cX12_passes 1 = .ok (.invokevirtual 116, 3) := by decide +kernel
theorem dX12_passes_4 : decode cX12_passes 4 = .ok (.aload_n 0, 1) := by decide +kernel
theorem dX12_passes_5 : decode cX12_passes 5 = .ok (.aload_n 1, 1) := by decide +kernel
theorem dX12_passes_6 : decode cX12_passes 6 = .ok (.invokevirtual 119, 3) := by decide +kernel
theorem dX12_passes_9 : decode cX12_passes 9 = .ok (.ifCond .eq 5, 3) := by decide +kernel
theorem dX12_passes_12 : decode cX12_passes 12 = .ok (.iconst 1, 1) := by decide +kernel
theorem dX12_passes_13 : decode cX12_passes 13 = .ok (.ireturn, 1) := by decide +kernel
theorem dX12_passes_14 : decode cX12_passes 14 = .ok (.aload_n 0, 1) := by decide +kernel
theorem dX12_passes_15 : decode cX12_passes 15 = .ok (.aload_n 0, 1) := by decide +kernel
theorem dX12_passes_16 : decode cX12_passes 16 = .ok (.getfield 101, 3) := by decide +kernel
theorem dX12_passes_19 : decode cX12_passes 19 = .ok (.putfield 92, 3) := by decide +kernel
theorem dX12_passes_22 : decode cX12_passes 22 = .ok (.iconst 0, 1) := by decide +kernel
theorem dX12_passes_23 : decode cX12_passes 23 = .ok (.ireturn, 1) := by decide +kernel
theorem dX12_sign_0 : decode cX12_sign 0 = .ok (.aload_n 0, 1) := by decide +kernel
theorem dX12_sign_1 : decode cX12_sign 1 = .ok (.invokevirtual 104, 3) := by decide +kernel
theorem dX12_sign_4 : decode cX12_sign 4 = .ok (.aload_n 0, 1) := by decide +kernel
theorem dX12_sign_5 : decode cX12_sign 5 = .ok (.iload_n 1, 1) := by decide +kernel
theorem dX12_sign_6 : decode cX12_sign 6 = .ok (.iload_n 1, 1) := by decide +kernel
theorem dX12_sign_7 : decode cX12_sign 7 = .ok (.invokevirtual 98, 3) := by decide +kernel
theorem dX12_sign_10 : decode cX12_sign 10 = .ok (.ifCond .ne 5, 3) := by decide +kernel
theorem dX12_sign_13 : decode cX12_sign 13 = .ok (.iconst 0, 1) := by decide +kernel
theorem dX12_sign_14 : decode cX12_sign 14 = .ok (.ireturn, 1) := by decide +kernel
theorem dX12_sign_15 : decode cX12_sign 15 = .ok (.aload_n 0, 1) := by decide +kernel
theorem dX12_sign_16 : decode cX12_sign 16 = .ok (.dup, 1) := by decide +kernel
theorem dX12_sign_17 : decode cX12_sign 17 = .ok (.getfield 92, 3) := by decide +kernel
theorem dX12_sign_20 : decode cX12_sign 20 = .ok (.iconst 1, 1) := by decide +kernel
theorem dX12_sign_21 : decode cX12_sign 21 = .ok (.iadd, 1) := by decide +kernel
theorem dX12_sign_22 : decode cX12_sign 22 = .ok (.putfield 92, 3) := by decide +kernel
theorem dX12_sign_25 : decode cX12_sign 25 = .ok (.iconst 1, 1) := by decide +kernel
theorem dX12_sign_26 : decode cX12_sign 26 = .ok (.ireturn, 1) := by decide +kernel
theorem dX12_number_0 : decode cX12_number 0 = .ok (.aload_n 0, 1) := by decide +kernel
theorem dX12_number_1 : decode cX12_number 1 = .ok (.invokevirtual 104, 3) := by decide +kernel
theorem dX12_number_4 : decode cX12_number 4 = .ok (.iconst 0, 1) := by decide +kernel
theorem dX12_number_5 : decode cX12_number 5 = .ok (.istore_n 3, 1) := by decide +kernel
theorem dX12_number_6 : decode cX12_number 6 = .ok (.aload_n 0, 1) := by decide +kernel
theorem dX12_number_7 : decode cX12_number 7 = .ok (.bipush 48, 2) := by decide +kernel
theorem dX12_number_9 : decode cX12_number 9 = .ok (.bipush 57, 2) := by decide +kernel
theorem dX12_number_11 : decode cX12_number 11 = .ok (.invokevirtual 98, 3) := by decide +kernel
theorem dX12_number_14 : decode cX12_number 14 = .ok (.ifCond .eq 51, 3) := by decide +kernel
theorem dX12_number_17 : decode cX12_number 17 = .ok (.aload_n 0, 1) := by decide +kernel
theorem dX12_number_18 : decode cX12_number 18 = .ok (.getfield 92, 3) := by decide +kernel
theorem dX12_number_21 : decode cX12_number 21 = .ok (.aload_n 0, 1) := by decide +kernel
theorem dX12_number_22 : decode cX12_number 22 = .ok (.getfield 101, 3) := by decide +kernel
theorem dX12_number_25 : decode cX12_number 25 = .ok (.isub, 1) := by decide +kernel
theorem dX12_number_26 : decode cX12_number 26 = .ok (.iconst 3, 1) := by decide +kernel
theorem dX12_number_27 : decode cX12_number 27 = .ok (.if_icmp .ge 23, 3) := by decide +kernel
theorem dX12_number_30 : decode cX12_number 30 = .ok (.bipush 10, 2) := by decide +kernel
theorem dX12_number_32 : decode cX12_number 32 = .ok (.iload_n 3, 1) := by decide +kernel
theorem dX12_number_33 : decode cX12_number 33 = .ok (.imul, 1) := by decide +kernel
theorem dX12_number_34 : decode cX12_number 34 = .ok (.aload_n 0, 1) := by decide +kernel
theorem dX12_number_35 : decode cX12_number 35 = .ok (.getfield 29, 3) := by decide +kernel
theorem dX12_number_38 : decode cX12_number 38 = .ok (.aload_n 0, 1) := by decide +kernel
theorem dX12_number_39 : decode cX12_number 39 = .ok (.getfield 92, 3) := by decide +kernel
theorem dX12_number_42 : decode cX12_number 42 = .ok (.baload, 1) := by decide +kernel
theorem dX12_number_43 : decode cX12_number 43 = .ok (.iadd, 1) := by decide +kernel
theorem dX12_number_44 : decode cX12_number 44 = .ok (.bipush 48, 2) := by decide +kernel
theorem dX12_number_46 : decode cX12_number 46 = .ok (.isub, 1) := by decide +kernel
theorem dX12_number_47 : decode cX12_number 47 = .ok (.goto 4, 3) := by decide +kernel
theorem dX12_number_50 : decode cX12_number 50 = .ok (.iload_n 3, 1) := by decide +kernel
theorem dX12_number_51 : decode cX12_number 51 = .ok (.istore_n 3, 1) := by decide +kernel
theorem dX12_number_52 : decode cX12_number 52 = .ok (.aload_n 0, 1) := by decide +kernel
theorem dX12_number_53 : decode cX12_number 53 = .ok (.dup, 1) := by decide +kernel
theorem dX12_number_54 : decode cX12_number 54 = .ok (.getfield 92, 3) := by decide +kernel
theorem dX12_number_57 : decode cX12_number 57 = .ok (.iconst 1, 1) := by decide +kernel
theorem dX12_number_58 : decode cX12_number 58 = .ok (.iadd, 1) := by decide +kernel
theorem dX12_number_59 : decode cX12_number 59 = .ok (.putfield 92, 3) := by decide +kernel
theorem dX12_number_62 : decode cX12_number 62 = .ok (.goto (-56), 3) := by decide +kernel
theorem dX12_number_65 : decode cX12_number 65 = .ok (.aload_n 0, 1) := by decide +kernel
theorem dX12_number_66 : decode cX12_number 66 = .ok (.getfield 92, 3) := by decide +kernel
theorem dX12_number_69 : decode cX12_number 69 = .ok (.aload_n 0, 1) := by decide +kernel
theorem dX12_number_70 : decode cX12_number 70 = .ok (.getfield 101, 3) := by decide +kernel
theorem dX12_number_73 : decode cX12_number 73 = .ok (.if_icmp .eq 26, 3) := by decide +kernel
theorem dX12_number_76 : decode cX12_number 76 = .ok (.aload_n 0, 1) := by decide +kernel
theorem dX12_number_77 : decode cX12_number 77 = .ok (.getfield 92, 3) := by decide +kernel
theorem dX12_number_80 : decode cX12_number 80 = .ok (.aload_n 0, 1) := by decide +kernel
theorem dX12_number_81 : decode cX12_number 81 = .ok (.getfield 101, 3) := by decide +kernel
theorem dX12_number_84 : decode cX12_number 84 = .ok (.isub, 1) := by decide +kernel
theorem dX12_number_85 : decode cX12_number 85 = .ok (.iconst 3, 1) := by decide +kernel
theorem dX12_number_86 : decode cX12_number 86 = .ok (.if_icmp .gt 13, 3) := by decide +kernel
theorem dX12_number_89 : decode cX12_number 89 = .ok (.iload_n 3, 1) := by decide +kernel
theorem dX12_number_90 : decode cX12_number 90 = .ok (.iload_n 1, 1) := by decide +kernel
theorem dX12_number_91 : decode cX12_number 91 = .ok (.if_icmp .lt 8, 3) := by decide +kernel
theorem dX12_number_94 : decode cX12_number 94 = .ok (.iload_n 3, 1) := by decide +kernel
theorem dX12_number_95 : decode cX12_number 95 = .ok (.iload_n 2, 1) := by decide +kernel
theorem dX12_number_96 : decode cX12_number 96 = .ok (.if_icmp .le 7, 3) := by decide +kernel
theorem dX12_number_99 : decode cX12_number 99 = .ok (.iconst (-1), 1) := by decide +kernel
theorem dX12_number_100 : decode cX12_number 100 = .ok (.goto 4, 3) := by decide +kernel
theorem dX12_number_103 : decode cX12_number 103 = .ok (.iload_n 3, 1) := by decide +kernel
theorem dX12_number_104 : decode cX12_number 104 = .ok (.ireturn, 1) := by decide +kernel
theorem dX12_after_0 : decode cX12_after 0 = .ok (.aload_n 0, 1) := by decide +kernel
theorem dX12_after_1 : decode cX12_after 1 = .ok (.invokevirtual 116, 3) := by decide +kernel
theorem dX12_after_4 : decode cX12_after 4 = .ok (.aload_n 0, 1) := by decide +kernel
theorem dX12_after_5 : decode cX12_after 5 = .ok (.aload_n 1, 1) := by decide +kernel
theorem dX12_after_6 : decode cX12_after 6 = .ok (.invokevirtual 119, 3) := by decide +kernel
theorem dX12_after_9 : decode cX12_after 9 = .ok (.ifCond .eq 12, 3) := by decide +kernel
theorem dX12_after_12 : decode cX12_after 12 = .ok (.aload_n 0, 1) := by decide +kernel
theorem dX12_after_13 : decode cX12_after 13 = .ok (.iload_n 2, 1) := by decide +kernel
theorem dX12_after_14 : decode cX12_after 14 = .ok (.iload_n 3, 1) := by decide +kernel
theorem dX12_after_15 : decode cX12_after 15 = .ok (.invokevirtual 123, 3) := by decide +kernel
theorem dX12_after_18 : decode cX12_after 18 = .ok (.goto 4, 3) := by decide +kernel
theorem dX12_after_21 : decode cX12_after 21 = .ok (.iconst (-1), 1) := by decide +kernel
theorem dX12_after_22 : decode cX12_after 22 = .ok (.ireturn, 1) := by decide +kernel
theorem dX12_fault_0 : decode cX12_fault 0 = .ok (.aload_n 0, 1) := by decide +kernel
theorem dX12_fault_1 : decode cX12_fault 1 = .ok (.iconst 0, 1) := by decide +kernel
theorem dX12_fault_2 : decode cX12_fault 2 = .ok (.putfield 3, 3) := by decide +kernel
theorem dX12_fault_5 : decode cX12_fault 5 = .ok (.aload_n 0, 1) := by decide +kernel
theorem dX12_fault_6 : decode cX12_fault 6 = .ok (.getfield 33, 3) := by decide +kernel
theorem dX12_fault_9 : decode cX12_fault 9 = .ok (.ireturn, 1) := by decide +kernel
theorem dX12_uses_0 : decode cX12_uses 0 = .ok (.aload_n 0, 1) := by decide +kernel
theorem dX12_uses_1 : decode cX12_uses 1 = .ok (.iconst 0, 1) := by decide +kernel
theorem dX12_uses_2 : decode cX12_uses 2 = .ok (.putfield 3, 3) := by decide +kernel
theorem dX12_uses_5 : decode cX12_uses 5 = .ok (.aload_n 0, 1) := by decide +kernel
theorem dX12_uses_6 : decode cX12_uses 6 = .ok (.aload_n 0, 1) := by decide +kernel
theorem dX12_uses_7 : decode cX12_uses 7 = .ok (.getfield 89, 3) := by decide +kernel
theorem dX12_uses_10 : decode cX12_uses 10 = .ok (.putfield 95, 3) := by decide +kernel
theorem dX12_uses_13 : decode cX12_uses 13 = .ok (.aload_n 0, 1) := by decide +kernel
theorem dX12_uses_14 : decode cX12_uses 14 = .ok (.iconst 0, 1) := by decide +kernel
theorem dX12_uses_15 : decode cX12_uses 15 = .ok (.putfield 89, 3) := by decide +kernel
theorem dX12_uses_18 : decode cX12_uses 18 = .ok (.aload_n 0, 1) := by decide +kernel
theorem dX12_uses_19 : decode cX12_uses 19 = .ok (.iconst 0, 1) := by decide +kernel
theorem dX12_uses_20 : decode cX12_uses 20 = .ok (.putfield 92, 3) := by decide +kernel
theorem dX12_uses_23 : decode cX12_uses 23 = .ok (.return_, 1) := by decide +kernel
theorem dX12_readNumber_0 : decode cX12_readNumber 0 = .ok (.aload_n 0, 1) := by decide +kernel
theorem dX12_readNumber_1 : decode cX12_readNumber 1 = .ok (.iload_n 2, 1) := by decide +kernel
theorem dX12_readNumber_2 : decode cX12_readNumber 2 = .ok (.iload_n 3, 1) := by decide +kernel
theorem dX12_readNumber_3 : decode cX12_readNumber 3 = .ok (.invokevirtual 123, 3) := by decide +kernel
theorem dX12_readNumber_6 : decode cX12_readNumber 6 = .ok (.istore 4, 2) := by decide +kernel
theorem dX12_readNumber_8 : decode cX12_readNumber 8 = .ok (.aload_n 0, 1) := by decide +kernel
theorem dX12_readNumber_9 : decode cX12_readNumber 9 = .ok (.getfield 13, 3) := by decide +kernel
theorem dX12_readNumber_12 : decode cX12_readNumber 12 = .ok (.iload_n 1, 1) := by decide +kernel
theorem dX12_readNumber_13 : decode cX12_readNumber 13 = .ok (.iload 4, 2) := by decide +kernel
theorem dX12_readNumber_15 : decode cX12_readNumber 15 = .ok (.ifCond .ge 12, 3) := by decide +kernel
theorem dX12_readNumber_18 : decode cX12_readNumber 18 = .ok (.aload_n 0, 1) := by decide +kernel
theorem dX12_readNumber_19 : decode cX12_readNumber 19 = .ok (.getfield 13, 3) := by decide +kernel
theorem dX12_readNumber_22 : decode cX12_readNumber 22 = .ok (.iload_n 1, 1) := by decide +kernel
theorem dX12_readNumber_23 : decode cX12_readNumber 23 = .ok (.iaload, 1) := by decide +kernel
theorem dX12_readNumber_24 : decode cX12_readNumber 24 = .ok (.goto 5, 3) := by decide +kernel
theorem dX12_readNumber_27 : decode cX12_readNumber 27 = .ok (.iload 4, 2) := by decide +kernel
theorem dX12_readNumber_29 : decode cX12_readNumber 29 = .ok (.iastore, 1) := by decide +kernel
theorem dX12_readNumber_30 : decode cX12_readNumber 30 = .ok (.iload 4, 2) := by decide +kernel
theorem dX12_readNumber_32 : decode cX12_readNumber 32 = .ok (.ifCond .lt 7, 3) := by decide +kernel
theorem dX12_readNumber_35 : decode cX12_readNumber 35 = .ok (.iconst 1, 1) := by decide +kernel
theorem dX12_readNumber_36 : decode cX12_readNumber 36 = .ok (.goto 4, 3) := by decide +kernel
theorem dX12_readNumber_39 : decode cX12_readNumber 39 = .ok (.iconst 0, 1) := by decide +kernel
theorem dX12_readNumber_40 : decode cX12_readNumber 40 = .ok (.ireturn, 1) := by decide +kernel
theorem dX12_letterTold_0 : decode cX12_letterTold 0 = .ok (.aload_n 0, 1) := by decide +kernel
theorem dX12_letterTold_1 : decode cX12_letterTold 1 = .ok (.invokevirtual 116, 3) := by decide +kernel
theorem dX12_letterTold_4 : decode cX12_letterTold 4 = .ok (.aload_n 0, 1) := by decide +kernel
theorem dX12_letterTold_5 : decode cX12_letterTold 5 = .ok (.getfield 92, 3) := by decide +kernel
theorem dX12_letterTold_8 : decode cX12_letterTold 8 = .ok (.aload_n 0, 1) := by decide +kernel
theorem dX12_letterTold_9 : decode cX12_letterTold 9 = .ok (.getfield 101, 3) := by decide +kernel
theorem dX12_letterTold_12 : decode cX12_letterTold 12 = .ok (.isub, 1) := by decide +kernel
theorem dX12_letterTold_13 : decode cX12_letterTold 13 = .ok (.iconst 1, 1) := by decide +kernel
theorem dX12_letterTold_14 : decode cX12_letterTold 14 = .ok (.if_icmp .ne 37, 3) := by decide +kernel
theorem dX12_letterTold_17 : decode cX12_letterTold 17 = .ok (.aload_n 0, 1) := by decide +kernel
theorem dX12_letterTold_18 : decode cX12_letterTold 18 = .ok (.getfield 29, 3) := by decide +kernel
theorem dX12_letterTold_21 : decode cX12_letterTold 21 = .ok (.aload_n 0, 1) := by decide +kernel
theorem dX12_letterTold_22 : decode cX12_letterTold 22 = .ok (.getfield 101, 3) := by decide +kernel
theorem dX12_letterTold_25 : decode cX12_letterTold 25 = .ok (.baload, 1) := by decide +kernel
theorem dX12_letterTold_26 : decode cX12_letterTold 26 = .ok (.bipush 97, 2) := by decide +kernel
theorem dX12_letterTold_28 : decode cX12_letterTold 28 = .ok (.bipush 104, 2) := by decide +kernel
theorem dX12_letterTold_30 : decode cX12_letterTold 30 = .ok (.invokestatic 84, 3) := by decide +kernel
theorem dX12_letterTold_33 : decode cX12_letterTold 33 = .ok (.ifCond .eq 18, 3) := by decide +kernel
theorem dX12_letterTold_36 : decode cX12_letterTold 36 = .ok (.aload_n 0, 1) := by decide +kernel
theorem dX12_letterTold_37 : decode cX12_letterTold 37 = .ok (.getfield 29, 3) := by decide +kernel
theorem dX12_letterTold_40 : decode cX12_letterTold 40 = .ok (.aload_n 0, 1) := by decide +kernel
theorem dX12_letterTold_41 : decode cX12_letterTold 41 = .ok (.getfield 101, 3) := by decide +kernel
theorem dX12_letterTold_44 : decode cX12_letterTold 44 = .ok (.baload, 1) := by decide +kernel
theorem dX12_letterTold_45 : decode cX12_letterTold 45 = .ok (.bipush 97, 2) := by decide +kernel
theorem dX12_letterTold_47 : decode cX12_letterTold 47 = .ok (.isub, 1) := by decide +kernel
theorem dX12_letterTold_48 : decode cX12_letterTold 48 = .ok (.goto 4, 3) := by decide +kernel
theorem dX12_letterTold_51 : decode cX12_letterTold 51 = .ok (.iconst (-1), 1) := by decide +kernel
theorem dX12_letterTold_52 : decode cX12_letterTold 52 = .ok (.ireturn, 1) := by decide +kernel
theorem dX12_readFamily_0 : decode cX12_readFamily 0 = .ok (.aload_n 0, 1) := by decide +kernel
theorem dX12_readFamily_1 : decode cX12_readFamily 1 = .ok (.invokevirtual 59, 3) := by decide +kernel
theorem dX12_readFamily_4 : decode cX12_readFamily 4 = .ok (.istore_n 1, 1) := by decide +kernel
theorem dX12_readFamily_5 : decode cX12_readFamily 5 = .ok (.iload_n 1, 1) := by decide +kernel
theorem dX12_readFamily_6 : decode cX12_readFamily 6 = .ok (.bipush 6, 2) := by decide +kernel
theorem dX12_readFamily_8 : decode cX12_readFamily 8 = .ok (.if_icmp .ne 5, 3) := by decide +kernel
theorem dX12_readFamily_11 : decode cX12_readFamily 11 = .ok (.iconst 0, 1) := by decide +kernel
theorem dX12_readFamily_12 : decode cX12_readFamily 12 = .ok (.ireturn, 1) := by decide +kernel
theorem dX12_readFamily_13 : decode cX12_readFamily 13 = .ok (.aload_n 0, 1) := by decide +kernel
theorem dX12_readFamily_14 : decode cX12_readFamily 14 = .ok (.ldc 126, 2) := by decide +kernel
theorem dX12_readFamily_16 : decode cX12_readFamily 16 = .ok (.iconst 0, 1) := by decide +kernel
theorem dX12_readFamily_17 : decode cX12_readFamily 17 = .ok (.bipush 9, 2) := by decide +kernel
theorem dX12_readFamily_19 : decode cX12_readFamily 19 = .ok (.invokevirtual 128, 3) := by decide +kernel
theorem dX12_readFamily_22 : decode cX12_readFamily 22 = .ok (.istore_n 2, 1) := by decide +kernel
theorem dX12_readFamily_23 : decode cX12_readFamily 23 = .ok (.iload_n 2, 1) := by decide +kernel
theorem dX12_readFamily_24 : decode cX12_readFamily 24 = .ok (.ifCond .ge 7, 3) := by decide +kernel
theorem dX12_readFamily_27 : decode cX12_readFamily 27 = .ok (.iconst (-1), 1) := by decide +kernel
theorem dX12_readFamily_28 : decode cX12_readFamily 28 = .ok (.goto 12, 3) := by decide +kernel
theorem dX12_readFamily_31 : decode cX12_readFamily 31 = .ok (.aload_n 0, 1) := by decide +kernel
theorem dX12_readFamily_32 : decode cX12_readFamily 32 = .ok (.ldc 132, 2) := by decide +kernel
theorem dX12_readFamily_34 : decode cX12_readFamily 34 = .ok (.iconst 0, 1) := by decide +kernel
theorem dX12_readFamily_35 : decode cX12_readFamily 35 = .ok (.bipush 99, 2) := by decide +kernel
theorem dX12_readFamily_37 : decode cX12_readFamily 37 = .ok (.invokevirtual 128, 3) := by decide +kernel
theorem dX12_readFamily_40 : decode cX12_readFamily 40 = .ok (.istore_n 3, 1) := by decide +kernel
theorem dX12_readFamily_41 : decode cX12_readFamily 41 = .ok (.iload_n 3, 1) := by decide +kernel
theorem dX12_readFamily_42 : decode cX12_readFamily 42 = .ok (.ifCond .ge 5, 3) := by decide +kernel
theorem dX12_readFamily_45 : decode cX12_readFamily 45 = .ok (.iconst 0, 1) := by decide +kernel
theorem dX12_readFamily_46 : decode cX12_readFamily 46 = .ok (.ireturn, 1) := by decide +kernel
theorem dX12_readFamily_47 : decode cX12_readFamily 47 = .ok (.aload_n 0, 1) := by decide +kernel
theorem dX12_readFamily_48 : decode cX12_readFamily 48 = .ok (.ldc 134, 2) := by decide +kernel
theorem dX12_readFamily_50 : decode cX12_readFamily 50 = .ok (.invokevirtual 136, 3) := by decide +kernel
theorem dX12_readFamily_53 : decode cX12_readFamily 53 = .ok (.ifCond .eq 14, 3) := by decide +kernel
theorem dX12_readFamily_56 : decode cX12_readFamily 56 = .ok (.aload_n 0, 1) := by decide +kernel
theorem dX12_readFamily_57 : decode cX12_readFamily 57 = .ok (.iconst 0, 1) := by decide +kernel
theorem dX12_readFamily_58 : decode cX12_readFamily 58 = .ok (.sipush 999, 3) := by decide +kernel
theorem dX12_readFamily_61 : decode cX12_readFamily 61 = .ok (.invokevirtual 123, 3) := by decide +kernel
theorem dX12_readFamily_64 : decode cX12_readFamily 64 = .ok (.goto 4, 3) := by decide +kernel
theorem dX12_readFamily_67 : decode cX12_readFamily 67 = .ok (.iconst 0, 1) := by decide +kernel
theorem dX12_readFamily_68 : decode cX12_readFamily 68 = .ok (.istore 4, 2) := by decide +kernel
theorem dX12_readFamily_70 : decode cX12_readFamily 70 = .ok (.iload 4, 2) := by decide +kernel
theorem dX12_readFamily_72 : decode cX12_readFamily 72 = .ok (.ifCond .ge 5, 3) := by decide +kernel
theorem dX12_readFamily_75 : decode cX12_readFamily 75 = .ok (.iconst 0, 1) := by decide +kernel
theorem dX12_readFamily_76 : decode cX12_readFamily 76 = .ok (.ireturn, 1) := by decide +kernel
theorem dX12_readFamily_77 : decode cX12_readFamily 77 = .ok (.aload_n 0, 1) := by decide +kernel
theorem dX12_readFamily_78 : decode cX12_readFamily 78 = .ok (.getfield 13, 3) := by decide +kernel
theorem dX12_readFamily_81 : decode cX12_readFamily 81 = .ok (.iload_n 1, 1) := by decide +kernel
theorem dX12_readFamily_82 : decode cX12_readFamily 82 = .ok (.iconst 0, 1) := by decide +kernel
theorem dX12_readFamily_83 : decode cX12_readFamily 83 = .ok (.invokestatic 63, 3) := by decide +kernel
theorem dX12_readFamily_86 : decode cX12_readFamily 86 = .ok (.iload_n 2, 1) := by decide +kernel
theorem dX12_readFamily_87 : decode cX12_readFamily 87 = .ok (.iastore, 1) := by decide +kernel
theorem dX12_readFamily_88 : decode cX12_readFamily 88 = .ok (.aload_n 0, 1) := by decide +kernel
theorem dX12_readFamily_89 : decode cX12_readFamily 89 = .ok (.getfield 13, 3) := by decide +kernel
theorem dX12_readFamily_92 : decode cX12_readFamily 92 = .ok (.iload_n 1, 1) := by decide +kernel
theorem dX12_readFamily_93 : decode cX12_readFamily 93 = .ok (.iconst 1, 1) := by decide +kernel
theorem dX12_readFamily_94 : decode cX12_readFamily 94 = .ok (.invokestatic 63, 3) := by decide +kernel
theorem dX12_readFamily_97 : decode cX12_readFamily 97 = .ok (.iload_n 3, 1) := by decide +kernel
theorem dX12_readFamily_98 : decode cX12_readFamily 98 = .ok (.iastore, 1) := by decide +kernel
theorem dX12_readFamily_99 : decode cX12_readFamily 99 = .ok (.aload_n 0, 1) := by decide +kernel
theorem dX12_readFamily_100 : decode cX12_readFamily 100 = .ok (.getfield 13, 3) := by decide +kernel
theorem dX12_readFamily_103 : decode cX12_readFamily 103 = .ok (.iload_n 1, 1) := by decide +kernel
theorem dX12_readFamily_104 : decode cX12_readFamily 104 = .ok (.iconst 2, 1) := by decide +kernel
theorem dX12_readFamily_105 : decode cX12_readFamily 105 = .ok (.invokestatic 63, 3) := by decide +kernel
theorem dX12_readFamily_108 : decode cX12_readFamily 108 = .ok (.iload 4, 2) := by decide +kernel
theorem dX12_readFamily_110 : decode cX12_readFamily 110 = .ok (.iastore, 1) := by decide +kernel
theorem dX12_readFamily_111 : decode cX12_readFamily 111 = .ok (.aload_n 0, 1) := by decide +kernel
theorem dX12_readFamily_112 : decode cX12_readFamily 112 = .ok (.getfield 13, 3) := by decide +kernel
theorem dX12_readFamily_115 : decode cX12_readFamily 115 = .ok (.iload_n 1, 1) := by decide +kernel
theorem dX12_readFamily_116 : decode cX12_readFamily 116 = .ok (.iconst 3, 1) := by decide +kernel
theorem dX12_readFamily_117 : decode cX12_readFamily 117 = .ok (.invokestatic 63, 3) := by decide +kernel
theorem dX12_readFamily_120 : decode cX12_readFamily 120 = .ok (.iconst 0, 1) := by decide +kernel
theorem dX12_readFamily_121 : decode cX12_readFamily 121 = .ok (.iastore, 1) := by decide +kernel
theorem dX12_readFamily_122 : decode cX12_readFamily 122 = .ok (.aload_n 0, 1) := by decide +kernel
theorem dX12_readFamily_123 : decode cX12_readFamily 123 = .ok (.getfield 13, 3) := by decide +kernel
theorem dX12_readFamily_126 : decode cX12_readFamily 126 = .ok (.iconst 0, 1) := by decide +kernel
theorem dX12_readFamily_127 : decode cX12_readFamily 127 = .ok (.dup2, 1) := by decide +kernel
theorem dX12_readFamily_128 : decode cX12_readFamily 128 = .ok (.iaload, 1) := by decide +kernel
theorem dX12_readFamily_129 : decode cX12_readFamily 129 = .ok (.iconst 1, 1) := by decide +kernel
theorem dX12_readFamily_130 : decode cX12_readFamily 130 = .ok (.iadd, 1) := by decide +kernel
theorem dX12_readFamily_131 : decode cX12_readFamily 131 = .ok (.iastore, 1) := by decide +kernel
theorem dX12_readFamily_132 : decode cX12_readFamily 132 = .ok (.iconst 1, 1) := by decide +kernel
theorem dX12_readFamily_133 : decode cX12_readFamily 133 = .ok (.ireturn, 1) := by decide +kernel
theorem dX12_readSlight_0 : decode cX12_readSlight 0 = .ok (.aload_n 0, 1) := by decide +kernel
theorem dX12_readSlight_1 : decode cX12_readSlight 1 = .ok (.invokevirtual 139, 3) := by decide +kernel
theorem dX12_readSlight_4 : decode cX12_readSlight 4 = .ok (.istore_n 1, 1) := by decide +kernel
theorem dX12_readSlight_5 : decode cX12_readSlight 5 = .ok (.iload_n 1, 1) := by decide +kernel
theorem dX12_readSlight_6 : decode cX12_readSlight 6 = .ok (.ifCond .ge 7, 3) := by decide +kernel
theorem dX12_readSlight_9 : decode cX12_readSlight 9 = .ok (.iconst (-1), 1) := by decide +kernel
theorem dX12_readSlight_10 : decode cX12_readSlight 10 = .ok (.goto 12, 3) := by decide +kernel
theorem dX12_readSlight_13 : decode cX12_readSlight 13 = .ok (.aload_n 0, 1) := by decide +kernel
theorem dX12_readSlight_14 : decode cX12_readSlight 14 = .ok (.ldc 142, 2) := by decide +kernel
theorem dX12_readSlight_16 : decode cX12_readSlight 16 = .ok (.iconst 0, 1) := by decide +kernel
theorem dX12_readSlight_17 : decode cX12_readSlight 17 = .ok (.bipush 9, 2) := by decide +kernel
theorem dX12_readSlight_19 : decode cX12_readSlight 19 = .ok (.invokevirtual 128, 3) := by decide +kernel
theorem dX12_readSlight_22 : decode cX12_readSlight 22 = .ok (.istore_n 2, 1) := by decide +kernel
theorem dX12_readSlight_23 : decode cX12_readSlight 23 = .ok (.iload_n 2, 1) := by decide +kernel
theorem dX12_readSlight_24 : decode cX12_readSlight 24 = .ok (.ifCond .ge 7, 3) := by decide +kernel
theorem dX12_readSlight_27 : decode cX12_readSlight 27 = .ok (.iconst (-1), 1) := by decide +kernel
theorem dX12_readSlight_28 : decode cX12_readSlight 28 = .ok (.goto 12, 3) := by decide +kernel
theorem dX12_readSlight_31 : decode cX12_readSlight 31 = .ok (.aload_n 0, 1) := by decide +kernel
theorem dX12_readSlight_32 : decode cX12_readSlight 32 = .ok (.ldc 144, 2) := by decide +kernel
theorem dX12_readSlight_34 : decode cX12_readSlight 34 = .ok (.iconst 0, 1) := by decide +kernel
theorem dX12_readSlight_35 : decode cX12_readSlight 35 = .ok (.bipush 9, 2) := by decide +kernel
theorem dX12_readSlight_37 : decode cX12_readSlight 37 = .ok (.invokevirtual 128, 3) := by decide +kernel
theorem dX12_readSlight_40 : decode cX12_readSlight 40 = .ok (.istore_n 3, 1) := by decide +kernel
theorem dX12_readSlight_41 : decode cX12_readSlight 41 = .ok (.iload_n 3, 1) := by decide +kernel
theorem dX12_readSlight_42 : decode cX12_readSlight 42 = .ok (.ifCond .ge 5, 3) := by decide +kernel
theorem dX12_readSlight_45 : decode cX12_readSlight 45 = .ok (.iconst 0, 1) := by decide +kernel
theorem dX12_readSlight_46 : decode cX12_readSlight 46 = .ok (.ireturn, 1) := by decide +kernel
theorem dX12_readSlight_47 : decode cX12_readSlight 47 = .ok (.aload_n 0, 1) := by decide +kernel
theorem dX12_readSlight_48 : decode cX12_readSlight 48 = .ok (.getfield 13, 3) := by decide +kernel
theorem dX12_readSlight_51 : decode cX12_readSlight 51 = .ok (.bipush 14, 2) := by decide +kernel
theorem dX12_readSlight_53 : decode cX12_readSlight 53 = .ok (.iconst 2, 1) := by decide +kernel
theorem dX12_readSlight_54 : decode cX12_readSlight 54 = .ok (.iload_n 1, 1) := by decide +kernel
theorem dX12_readSlight_55 : decode cX12_readSlight 55 = .ok (.imul, 1) := by decide +kernel
theorem dX12_readSlight_56 : decode cX12_readSlight 56 = .ok (.iadd, 1) := by decide +kernel
theorem dX12_readSlight_57 : decode cX12_readSlight 57 = .ok (.iconst 0, 1) := by decide +kernel
theorem dX12_readSlight_58 : decode cX12_readSlight 58 = .ok (.iadd, 1) := by decide +kernel
theorem dX12_readSlight_59 : decode cX12_readSlight 59 = .ok (.iload_n 2, 1) := by decide +kernel
theorem dX12_readSlight_60 : decode cX12_readSlight 60 = .ok (.iastore, 1) := by decide +kernel
theorem dX12_readSlight_61 : decode cX12_readSlight 61 = .ok (.aload_n 0, 1) := by decide +kernel
theorem dX12_readSlight_62 : decode cX12_readSlight 62 = .ok (.getfield 13, 3) := by decide +kernel
theorem dX12_readSlight_65 : decode cX12_readSlight 65 = .ok (.bipush 14, 2) := by decide +kernel
theorem dX12_readSlight_67 : decode cX12_readSlight 67 = .ok (.iconst 2, 1) := by decide +kernel
theorem dX12_readSlight_68 : decode cX12_readSlight 68 = .ok (.iload_n 1, 1) := by decide +kernel
theorem dX12_readSlight_69 : decode cX12_readSlight 69 = .ok (.imul, 1) := by decide +kernel
theorem dX12_readSlight_70 : decode cX12_readSlight 70 = .ok (.iadd, 1) := by decide +kernel
theorem dX12_readSlight_71 : decode cX12_readSlight 71 = .ok (.iconst 1, 1) := by decide +kernel
theorem dX12_readSlight_72 : decode cX12_readSlight 72 = .ok (.iadd, 1) := by decide +kernel
theorem dX12_readSlight_73 : decode cX12_readSlight 73 = .ok (.iload_n 3, 1) := by decide +kernel
theorem dX12_readSlight_74 : decode cX12_readSlight 74 = .ok (.iastore, 1) := by decide +kernel
theorem dX12_readSlight_75 : decode cX12_readSlight 75 = .ok (.iconst 1, 1) := by decide +kernel
theorem dX12_readSlight_76 : decode cX12_readSlight 76 = .ok (.ireturn, 1) := by decide +kernel
theorem dX12_begins_0 : decode cX12_begins 0 = .ok (.aload_n 0, 1) := by decide +kernel
theorem dX12_begins_1 : decode cX12_begins 1 = .ok (.invokevirtual 73, 3) := by decide +kernel
theorem dX12_begins_4 : decode cX12_begins 4 = .ok (.istore 5, 2) := by decide +kernel
theorem dX12_begins_6 : decode cX12_begins 6 = .ok (.aload_n 0, 1) := by decide +kernel
theorem dX12_begins_7 : decode cX12_begins 7 = .ok (.getfield 13, 3) := by decide +kernel
theorem dX12_begins_10 : decode cX12_begins 10 = .ok (.iload 5, 2) := by decide +kernel
theorem dX12_begins_12 : decode cX12_begins 12 = .ok (.iconst 0, 1) := by decide +kernel
theorem dX12_begins_13 : decode cX12_begins 13 = .ok (.invokestatic 67, 3) := by decide +kernel
theorem dX12_begins_16 : decode cX12_begins 16 = .ok (.iload_n 1, 1) := by decide +kernel
theorem dX12_begins_17 : decode cX12_begins 17 = .ok (.iastore, 1) := by decide +kernel
theorem dX12_begins_18 : decode cX12_begins 18 = .ok (.aload_n 0, 1) := by decide +kernel
theorem dX12_begins_19 : decode cX12_begins 19 = .ok (.getfield 13, 3) := by decide +kernel
theorem dX12_begins_22 : decode cX12_begins 22 = .ok (.iload 5, 2) := by decide +kernel
theorem dX12_begins_24 : decode cX12_begins 24 = .ok (.iconst 1, 1) := by decide +kernel
theorem dX12_begins_25 : decode cX12_begins 25 = .ok (.invokestatic 67, 3) := by decide +kernel
theorem dX12_begins_28 : decode cX12_begins 28 = .ok (.iload_n 2, 1) := by decide +kernel
theorem dX12_begins_29 : decode cX12_begins 29 = .ok (.iastore, 1) := by decide +kernel
theorem dX12_begins_30 : decode cX12_begins 30 = .ok (.aload_n 0, 1) := by decide +kernel
theorem dX12_begins_31 : decode cX12_begins 31 = .ok (.getfield 13, 3) := by decide +kernel
theorem dX12_begins_34 : decode cX12_begins 34 = .ok (.iload 5, 2) := by decide +kernel
theorem dX12_begins_36 : decode cX12_begins 36 = .ok (.iconst 2, 1) := by decide +kernel
theorem dX12_begins_37 : decode cX12_begins 37 = .ok (.invokestatic 67, 3) := by decide +kernel
theorem dX12_begins_40 : decode cX12_begins 40 = .ok (.iload_n 3, 1) := by decide +kernel
theorem dX12_begins_41 : decode cX12_begins 41 = .ok (.iastore, 1) := by decide +kernel
theorem dX12_begins_42 : decode cX12_begins 42 = .ok (.aload_n 0, 1) := by decide +kernel
theorem dX12_begins_43 : decode cX12_begins 43 = .ok (.getfield 13, 3) := by decide +kernel
theorem dX12_begins_46 : decode cX12_begins 46 = .ok (.iload 5, 2) := by decide +kernel
theorem dX12_begins_48 : decode cX12_begins 48 = .ok (.iconst 3, 1) := by decide +kernel
theorem dX12_begins_49 : decode cX12_begins 49 = .ok (.invokestatic 67, 3) := by decide +kernel
theorem dX12_begins_52 : decode cX12_begins 52 = .ok (.iconst 0, 1) := by decide +kernel
theorem dX12_begins_53 : decode cX12_begins 53 = .ok (.iastore, 1) := by decide +kernel
theorem dX12_begins_54 : decode cX12_begins 54 = .ok (.aload_n 0, 1) := by decide +kernel
theorem dX12_begins_55 : decode cX12_begins 55 = .ok (.getfield 13, 3) := by decide +kernel
theorem dX12_begins_58 : decode cX12_begins 58 = .ok (.iload 5, 2) := by decide +kernel
theorem dX12_begins_60 : decode cX12_begins 60 = .ok (.iconst 4, 1) := by decide +kernel
theorem dX12_begins_61 : decode cX12_begins 61 = .ok (.invokestatic 67, 3) := by decide +kernel
theorem dX12_begins_64 : decode cX12_begins 64 = .ok (.iload 4, 2) := by decide +kernel
theorem dX12_begins_66 : decode cX12_begins 66 = .ok (.iastore, 1) := by decide +kernel
theorem dX12_begins_67 : decode cX12_begins 67 = .ok (.aload_n 0, 1) := by decide +kernel
theorem dX12_begins_68 : decode cX12_begins 68 = .ok (.getfield 13, 3) := by decide +kernel
theorem dX12_begins_71 : decode cX12_begins 71 = .ok (.iload 5, 2) := by decide +kernel
theorem dX12_begins_73 : decode cX12_begins 73 = .ok (.iconst 5, 1) := by decide +kernel
theorem dX12_begins_74 : decode cX12_begins 74 = .ok (.invokestatic 67, 3) := by decide +kernel
theorem dX12_begins_77 : decode cX12_begins 77 = .ok (.iconst 0, 1) := by decide +kernel
theorem dX12_begins_78 : decode cX12_begins 78 = .ok (.iastore, 1) := by decide +kernel
theorem dX12_begins_79 : decode cX12_begins 79 = .ok (.aload_n 0, 1) := by decide +kernel
theorem dX12_begins_80 : decode cX12_begins 80 = .ok (.getfield 13, 3) := by decide +kernel
theorem dX12_begins_83 : decode cX12_begins 83 = .ok (.iload 5, 2) := by decide +kernel
theorem dX12_begins_85 : decode cX12_begins 85 = .ok (.bipush 6, 2) := by decide +kernel
theorem dX12_begins_87 : decode cX12_begins 87 = .ok (.invokestatic 67, 3) := by decide +kernel
theorem dX12_begins_90 : decode cX12_begins 90 = .ok (.iconst 0, 1) := by decide +kernel
theorem dX12_begins_91 : decode cX12_begins 91 = .ok (.iastore, 1) := by decide +kernel
theorem dX12_begins_92 : decode cX12_begins 92 = .ok (.aload_n 0, 1) := by decide +kernel
theorem dX12_begins_93 : decode cX12_begins 93 = .ok (.getfield 13, 3) := by decide +kernel
theorem dX12_begins_96 : decode cX12_begins 96 = .ok (.iconst 1, 1) := by decide +kernel
theorem dX12_begins_97 : decode cX12_begins 97 = .ok (.dup2, 1) := by decide +kernel
theorem dX12_begins_98 : decode cX12_begins 98 = .ok (.iaload, 1) := by decide +kernel
theorem dX12_begins_99 : decode cX12_begins 99 = .ok (.iconst 1, 1) := by decide +kernel
theorem dX12_begins_100 : decode cX12_begins 100 = .ok (.iadd, 1) := by decide +kernel
theorem dX12_begins_101 : decode cX12_begins 101 = .ok (.iastore, 1) := by decide +kernel
theorem dX12_begins_102 : decode cX12_begins 102 = .ok (.return_, 1) := by decide +kernel
theorem dX12_readGrudge_0 : decode cX12_readGrudge 0 = .ok (.aload_n 0, 1) := by decide +kernel
theorem dX12_readGrudge_1 : decode cX12_readGrudge 1 = .ok (.invokevirtual 73, 3) := by decide +kernel
theorem dX12_readGrudge_4 : decode cX12_readGrudge 4 = .ok (.istore_n 1, 1) := by decide +kernel
theorem dX12_readGrudge_5 : decode cX12_readGrudge 5 = .ok (.iload_n 1, 1) := by decide +kernel
theorem dX12_readGrudge_6 : decode cX12_readGrudge 6 = .ok (.bipush 10, 2) := by decide +kernel
theorem dX12_readGrudge_8 : decode cX12_readGrudge 8 = .ok (.if_icmp .ne 5, 3) := by decide +kernel
theorem dX12_readGrudge_11 : decode cX12_readGrudge 11 = .ok (.iconst 0, 1) := by decide +kernel
theorem dX12_readGrudge_12 : decode cX12_readGrudge 12 = .ok (.ireturn, 1) := by decide +kernel
theorem dX12_readGrudge_13 : decode cX12_readGrudge 13 = .ok (.aload_n 0, 1) := by decide +kernel
theorem dX12_readGrudge_14 : decode cX12_readGrudge 14 = .ok (.iconst 0, 1) := by decide +kernel
theorem dX12_readGrudge_15 : decode cX12_readGrudge 15 = .ok (.aload_n 0, 1) := by decide +kernel
theorem dX12_readGrudge_16 : decode cX12_readGrudge 16 = .ok (.invokevirtual 59, 3) := by decide +kernel
theorem dX12_readGrudge_19 : decode cX12_readGrudge 19 = .ok (.iconst 1, 1) := by decide +kernel
theorem dX12_readGrudge_20 : decode cX12_readGrudge 20 = .ok (.isub, 1) := by decide +kernel
theorem dX12_readGrudge_21 : decode cX12_readGrudge 21 = .ok (.invokevirtual 123, 3) := by decide +kernel
theorem dX12_readGrudge_24 : decode cX12_readGrudge 24 = .ok (.istore_n 2, 1) := by decide +kernel
theorem dX12_readGrudge_25 : decode cX12_readGrudge 25 = .ok (.iload_n 2, 1) := by decide +kernel
theorem dX12_readGrudge_26 : decode cX12_readGrudge 26 = .ok (.ifCond .ge 7, 3) := by decide +kernel
theorem dX12_readGrudge_29 : decode cX12_readGrudge 29 = .ok (.iconst (-1), 1) := by decide +kernel
theorem dX12_readGrudge_30 : decode cX12_readGrudge 30 = .ok (.goto 14, 3) := by decide +kernel
theorem dX12_readGrudge_33 : decode cX12_readGrudge 33 = .ok (.aload_n 0, 1) := by decide +kernel
theorem dX12_readGrudge_34 : decode cX12_readGrudge 34 = .ok (.iconst 0, 1) := by decide +kernel
theorem dX12_readGrudge_35 : decode cX12_readGrudge 35 = .ok (.aload_n 0, 1) := by decide +kernel
theorem dX12_readGrudge_36 : decode cX12_readGrudge 36 = .ok (.invokevirtual 59, 3) := by decide +kernel
theorem dX12_readGrudge_39 : decode cX12_readGrudge 39 = .ok (.iconst 1, 1) := by decide +kernel
theorem dX12_readGrudge_40 : decode cX12_readGrudge 40 = .ok (.isub, 1) := by decide +kernel
theorem dX12_readGrudge_41 : decode cX12_readGrudge 41 = .ok (.invokevirtual 123, 3) := by decide +kernel
theorem dX12_readGrudge_44 : decode cX12_readGrudge 44 = .ok (.istore_n 3, 1) := by decide +kernel
theorem dX12_readGrudge_45 : decode cX12_readGrudge 45 = .ok (.iload_n 3, 1) := by decide +kernel
theorem dX12_readGrudge_46 : decode cX12_readGrudge 46 = .ok (.ifCond .lt 8, 3) := by decide +kernel
theorem dX12_readGrudge_49 : decode cX12_readGrudge 49 = .ok (.iload_n 3, 1) := by decide +kernel
theorem dX12_readGrudge_50 : decode cX12_readGrudge 50 = .ok (.iload_n 2, 1) := by decide +kernel
theorem dX12_readGrudge_51 : decode cX12_readGrudge 51 = .ok (.if_icmp .ne 5, 3) := by decide +kernel
theorem dX12_readGrudge_54 : decode cX12_readGrudge 54 = .ok (.iconst 0, 1) := by decide +kernel
theorem dX12_readGrudge_55 : decode cX12_readGrudge 55 = .ok (.ireturn, 1) := by decide +kernel
theorem dX12_readGrudge_56 : decode cX12_readGrudge 56 = .ok (.aload_n 0, 1) := by decide +kernel
theorem dX12_readGrudge_57 : decode cX12_readGrudge 57 = .ok (.invokevirtual 116, 3) := by decide +kernel
theorem dX12_readGrudge_60 : decode cX12_readGrudge 60 = .ok (.aload_n 0, 1) := by decide +kernel
theorem dX12_readGrudge_61 : decode cX12_readGrudge 61 = .ok (.ldc 146, 2) := by decide +kernel
theorem dX12_readGrudge_63 : decode cX12_readGrudge 63 = .ok (.invokevirtual 119, 3) := by decide +kernel
theorem dX12_readGrudge_66 : decode cX12_readGrudge 66 = .ok (.ifCond .eq 10, 3) := by decide +kernel
theorem dX12_readGrudge_69 : decode cX12_readGrudge 69 = .ok (.aload_n 0, 1) := by decide +kernel
theorem dX12_readGrudge_70 : decode cX12_readGrudge 70 = .ok (.invokevirtual 139, 3) := by decide +kernel
theorem dX12_readGrudge_73 : decode cX12_readGrudge 73 = .ok (.goto 4, 3) := by decide +kernel
theorem dX12_readGrudge_76 : decode cX12_readGrudge 76 = .ok (.iconst (-1), 1) := by decide +kernel
theorem dX12_readGrudge_77 : decode cX12_readGrudge 77 = .ok (.istore 4, 2) := by decide +kernel
theorem dX12_readGrudge_79 : decode cX12_readGrudge 79 = .ok (.iload 4, 2) := by decide +kernel
theorem dX12_readGrudge_81 : decode cX12_readGrudge 81 = .ok (.ifCond .ge 7, 3) := by decide +kernel
theorem dX12_readGrudge_84 : decode cX12_readGrudge 84 = .ok (.iconst (-1), 1) := by decide +kernel
theorem dX12_readGrudge_85 : decode cX12_readGrudge 85 = .ok (.goto 13, 3) := by decide +kernel
theorem dX12_readGrudge_88 : decode cX12_readGrudge 88 = .ok (.aload_n 0, 1) := by decide +kernel
theorem dX12_readGrudge_89 : decode cX12_readGrudge 89 = .ok (.ldc 148, 2) := by decide +kernel
theorem dX12_readGrudge_91 : decode cX12_readGrudge 91 = .ok (.iconst 0, 1) := by decide +kernel
theorem dX12_readGrudge_92 : decode cX12_readGrudge 92 = .ok (.sipush 999, 3) := by decide +kernel
theorem dX12_readGrudge_95 : decode cX12_readGrudge 95 = .ok (.invokevirtual 128, 3) := by decide +kernel
theorem dX12_readGrudge_98 : decode cX12_readGrudge 98 = .ok (.istore 5, 2) := by decide +kernel
theorem dX12_readGrudge_100 : decode cX12_readGrudge 100 = .ok (.iload 5, 2) := by decide +kernel
theorem dX12_readGrudge_102 : decode cX12_readGrudge 102 = .ok (.ifCond .ge 5, 3) := by decide +kernel
theorem dX12_readGrudge_105 : decode cX12_readGrudge 105 = .ok (.iconst 0, 1) := by decide +kernel
theorem dX12_readGrudge_106 : decode cX12_readGrudge 106 = .ok (.ireturn, 1) := by decide +kernel
theorem dX12_readGrudge_107 : decode cX12_readGrudge 107 = .ok (.aload_n 0, 1) := by decide +kernel
theorem dX12_readGrudge_108 : decode cX12_readGrudge 108 = .ok (.ldc 150, 2) := by decide +kernel
theorem dX12_readGrudge_110 : decode cX12_readGrudge 110 = .ok (.invokevirtual 136, 3) := by decide +kernel
theorem dX12_readGrudge_113 : decode cX12_readGrudge 113 = .ok (.ifCond .eq 13, 3) := by decide +kernel
theorem dX12_readGrudge_116 : decode cX12_readGrudge 116 = .ok (.aload_n 0, 1) := by decide +kernel
theorem dX12_readGrudge_117 : decode cX12_readGrudge 117 = .ok (.iconst 0, 1) := by decide +kernel
theorem dX12_readGrudge_118 : decode cX12_readGrudge 118 = .ok (.bipush 99, 2) := by decide +kernel
theorem dX12_readGrudge_120 : decode cX12_readGrudge 120 = .ok (.invokevirtual 123, 3) := by decide +kernel
theorem dX12_readGrudge_123 : decode cX12_readGrudge 123 = .ok (.goto 4, 3) := by decide +kernel
theorem dX12_readGrudge_126 : decode cX12_readGrudge 126 = .ok (.iconst 0, 1) := by decide +kernel
theorem dX12_readGrudge_127 : decode cX12_readGrudge 127 = .ok (.istore 6, 2) := by decide +kernel
theorem dX12_readGrudge_129 : decode cX12_readGrudge 129 = .ok (.iload 6, 2) := by decide +kernel
theorem dX12_readGrudge_131 : decode cX12_readGrudge 131 = .ok (.ifCond .ge 5, 3) := by decide +kernel
theorem dX12_readGrudge_134 : decode cX12_readGrudge 134 = .ok (.iconst 0, 1) := by decide +kernel
theorem dX12_readGrudge_135 : decode cX12_readGrudge 135 = .ok (.ireturn, 1) := by decide +kernel
theorem dX12_readGrudge_136 : decode cX12_readGrudge 136 = .ok (.aload_n 0, 1) := by decide +kernel
theorem dX12_readGrudge_137 : decode cX12_readGrudge 137 = .ok (.iload_n 2, 1) := by decide +kernel
theorem dX12_readGrudge_138 : decode cX12_readGrudge 138 = .ok (.iload_n 3, 1) := by decide +kernel
theorem dX12_readGrudge_139 : decode cX12_readGrudge 139 = .ok (.iload 4, 2) := by decide +kernel
theorem dX12_readGrudge_141 : decode cX12_readGrudge 141 = .ok (.iload 5, 2) := by decide +kernel
theorem dX12_readGrudge_143 : decode cX12_readGrudge 143 = .ok (.invokevirtual 152, 3) := by decide +kernel
theorem dX12_readGrudge_146 : decode cX12_readGrudge 146 = .ok (.aload_n 0, 1) := by decide +kernel
theorem dX12_readGrudge_147 : decode cX12_readGrudge 147 = .ok (.getfield 13, 3) := by decide +kernel
theorem dX12_readGrudge_150 : decode cX12_readGrudge 150 = .ok (.iload_n 1, 1) := by decide +kernel
theorem dX12_readGrudge_151 : decode cX12_readGrudge 151 = .ok (.iconst 3, 1) := by decide +kernel
theorem dX12_readGrudge_152 : decode cX12_readGrudge 152 = .ok (.invokestatic 67, 3) := by decide +kernel
theorem dX12_readGrudge_155 : decode cX12_readGrudge 155 = .ok (.iload 6, 2) := by decide +kernel
theorem dX12_readGrudge_157 : decode cX12_readGrudge 157 = .ok (.iastore, 1) := by decide +kernel
theorem dX12_readGrudge_158 : decode cX12_readGrudge 158 = .ok (.aload_n 0, 1) := by decide +kernel
theorem dX12_readGrudge_159 : decode cX12_readGrudge 159 = .ok (.getfield 13, 3) := by decide +kernel
theorem dX12_readGrudge_162 : decode cX12_readGrudge 162 = .ok (.iload_n 1, 1) := by decide +kernel
theorem dX12_readGrudge_163 : decode cX12_readGrudge 163 = .ok (.iconst 5, 1) := by decide +kernel
theorem dX12_readGrudge_164 : decode cX12_readGrudge 164 = .ok (.invokestatic 67, 3) := by decide +kernel
theorem dX12_readGrudge_167 : decode cX12_readGrudge 167 = .ok (.aload_n 0, 1) := by decide +kernel
theorem dX12_readGrudge_168 : decode cX12_readGrudge 168 = .ok (.ldc 156, 2) := by decide +kernel
theorem dX12_readGrudge_170 : decode cX12_readGrudge 170 = .ok (.invokevirtual 136, 3) := by decide +kernel
theorem dX12_readGrudge_173 : decode cX12_readGrudge 173 = .ok (.ifCond .eq 7, 3) := by decide +kernel
theorem dX12_readGrudge_176 : decode cX12_readGrudge 176 = .ok (.iconst 1, 1) := by decide +kernel
theorem dX12_readGrudge_177 : decode cX12_readGrudge 177 = .ok (.goto 4, 3) := by decide +kernel
theorem dX12_readGrudge_180 : decode cX12_readGrudge 180 = .ok (.iconst 0, 1) := by decide +kernel
theorem dX12_readGrudge_181 : decode cX12_readGrudge 181 = .ok (.iastore, 1) := by decide +kernel
theorem dX12_readGrudge_182 : decode cX12_readGrudge 182 = .ok (.iconst 1, 1) := by decide +kernel
theorem dX12_readGrudge_183 : decode cX12_readGrudge 183 = .ok (.ireturn, 1) := by decide +kernel
theorem dX12_seasonTold_0 : decode cX12_seasonTold 0 = .ok (.aload_n 0, 1) := by decide +kernel
theorem dX12_seasonTold_1 : decode cX12_seasonTold 1 = .ok (.invokevirtual 116, 3) := by decide +kernel
theorem dX12_seasonTold_4 : decode cX12_seasonTold 4 = .ok (.aload_n 0, 1) := by decide +kernel
theorem dX12_seasonTold_5 : decode cX12_seasonTold 5 = .ok (.ldc 158, 2) := by decide +kernel
theorem dX12_seasonTold_7 : decode cX12_seasonTold 7 = .ok (.invokevirtual 119, 3) := by decide +kernel
theorem dX12_seasonTold_10 : decode cX12_seasonTold 10 = .ok (.ifCond .eq 7, 3) := by decide +kernel
theorem dX12_seasonTold_13 : decode cX12_seasonTold 13 = .ok (.iconst 0, 1) := by decide +kernel
theorem dX12_seasonTold_14 : decode cX12_seasonTold 14 = .ok (.goto 43, 3) := by decide +kernel
theorem dX12_seasonTold_17 : decode cX12_seasonTold 17 = .ok (.aload_n 0, 1) := by decide +kernel
theorem dX12_seasonTold_18 : decode cX12_seasonTold 18 = .ok (.ldc 160, 2) := by decide +kernel
theorem dX12_seasonTold_20 : decode cX12_seasonTold 20 = .ok (.invokevirtual 119, 3) := by decide +kernel
theorem dX12_seasonTold_23 : decode cX12_seasonTold 23 = .ok (.ifCond .eq 7, 3) := by decide +kernel
theorem dX12_seasonTold_26 : decode cX12_seasonTold 26 = .ok (.iconst 1, 1) := by decide +kernel
theorem dX12_seasonTold_27 : decode cX12_seasonTold 27 = .ok (.goto 30, 3) := by decide +kernel
theorem dX12_seasonTold_30 : decode cX12_seasonTold 30 = .ok (.aload_n 0, 1) := by decide +kernel
theorem dX12_seasonTold_31 : decode cX12_seasonTold 31 = .ok (.ldc 162, 2) := by decide +kernel
theorem dX12_seasonTold_33 : decode cX12_seasonTold 33 = .ok (.invokevirtual 119, 3) := by decide +kernel
theorem dX12_seasonTold_36 : decode cX12_seasonTold 36 = .ok (.ifCond .eq 7, 3) := by decide +kernel
theorem dX12_seasonTold_39 : decode cX12_seasonTold 39 = .ok (.iconst 2, 1) := by decide +kernel
theorem dX12_seasonTold_40 : decode cX12_seasonTold 40 = .ok (.goto 17, 3) := by decide +kernel
theorem dX12_seasonTold_43 : decode cX12_seasonTold 43 = .ok (.aload_n 0, 1) := by decide +kernel
theorem dX12_seasonTold_44 : decode cX12_seasonTold 44 = .ok (.ldc 164, 2) := by decide +kernel
theorem dX12_seasonTold_46 : decode cX12_seasonTold 46 = .ok (.invokevirtual 119, 3) := by decide +kernel
theorem dX12_seasonTold_49 : decode cX12_seasonTold 49 = .ok (.ifCond .eq 7, 3) := by decide +kernel
theorem dX12_seasonTold_52 : decode cX12_seasonTold 52 = .ok (.iconst 3, 1) := by decide +kernel
theorem dX12_seasonTold_53 : decode cX12_seasonTold 53 = .ok (.goto 4, 3) := by decide +kernel
theorem dX12_seasonTold_56 : decode cX12_seasonTold 56 = .ok (.iconst (-1), 1) := by decide +kernel
theorem dX12_seasonTold_57 : decode cX12_seasonTold 57 = .ok (.ireturn, 1) := by decide +kernel
theorem dX12_readHeat_0 : decode cX12_readHeat 0 = .ok (.aload_n 0, 1) := by decide +kernel
theorem dX12_readHeat_1 : decode cX12_readHeat 1 = .ok (.invokevirtual 166, 3) := by decide +kernel
theorem dX12_readHeat_4 : decode cX12_readHeat 4 = .ok (.istore_n 1, 1) := by decide +kernel
theorem dX12_readHeat_5 : decode cX12_readHeat 5 = .ok (.iload_n 1, 1) := by decide +kernel
theorem dX12_readHeat_6 : decode cX12_readHeat 6 = .ok (.ifCond .lt 21, 3) := by decide +kernel
theorem dX12_readHeat_9 : decode cX12_readHeat 9 = .ok (.aload_n 0, 1) := by decide +kernel
theorem dX12_readHeat_10 : decode cX12_readHeat 10 = .ok (.bipush 10, 2) := by decide +kernel
theorem dX12_readHeat_12 : decode cX12_readHeat 12 = .ok (.iload_n 1, 1) := by decide +kernel
theorem dX12_readHeat_13 : decode cX12_readHeat 13 = .ok (.iadd, 1) := by decide +kernel
theorem dX12_readHeat_14 : decode cX12_readHeat 14 = .ok (.iconst 0, 1) := by decide +kernel
theorem dX12_readHeat_15 : decode cX12_readHeat 15 = .ok (.bipush 20, 2) := by decide +kernel
theorem dX12_readHeat_17 : decode cX12_readHeat 17 = .ok (.invokevirtual 169, 3) := by decide +kernel
theorem dX12_readHeat_20 : decode cX12_readHeat 20 = .ok (.ifCond .eq 7, 3) := by decide +kernel
theorem dX12_readHeat_23 : decode cX12_readHeat 23 = .ok (.iconst 1, 1) := by decide +kernel
theorem dX12_readHeat_24 : decode cX12_readHeat 24 = .ok (.goto 4, 3) := by decide +kernel
theorem dX12_readHeat_27 : decode cX12_readHeat 27 = .ok (.iconst 0, 1) := by decide +kernel
theorem dX12_readHeat_28 : decode cX12_readHeat 28 = .ok (.ireturn, 1) := by decide +kernel
theorem dX12_readTownLine_0 : decode cX12_readTownLine 0 = .ok (.aload_n 0, 1) := by decide +kernel
theorem dX12_readTownLine_1 : decode cX12_readTownLine 1 = .ok (.ldc 172, 2) := by decide +kernel
theorem dX12_readTownLine_3 : decode cX12_readTownLine 3 = .ok (.invokevirtual 119, 3) := by decide +kernel
theorem dX12_readTownLine_6 : decode cX12_readTownLine 6 = .ok (.ifCond .eq 8, 3) := by decide +kernel
theorem dX12_readTownLine_9 : decode cX12_readTownLine 9 = .ok (.aload_n 0, 1) := by decide +kernel
theorem dX12_readTownLine_10 : decode cX12_readTownLine 10 = .ok (.invokevirtual 174, 3) := by decide +kernel
theorem dX12_readTownLine_13 : decode cX12_readTownLine 13 = .ok (.ireturn, 1) := by decide +kernel
theorem dX12_readTownLine_14 : decode cX12_readTownLine 14 = .ok (.aload_n 0, 1) := by decide +kernel
theorem dX12_readTownLine_15 : decode cX12_readTownLine 15 = .ok (.ldc 178, 2) := by decide +kernel
theorem dX12_readTownLine_17 : decode cX12_readTownLine 17 = .ok (.invokevirtual 119, 3) := by decide +kernel
theorem dX12_readTownLine_20 : decode cX12_readTownLine 20 = .ok (.ifCond .eq 8, 3) := by decide +kernel
theorem dX12_readTownLine_23 : decode cX12_readTownLine 23 = .ok (.aload_n 0, 1) := by decide +kernel
theorem dX12_readTownLine_24 : decode cX12_readTownLine 24 = .ok (.invokevirtual 180, 3) := by decide +kernel
theorem dX12_readTownLine_27 : decode cX12_readTownLine 27 = .ok (.ireturn, 1) := by decide +kernel
theorem dX12_readTownLine_28 : decode cX12_readTownLine 28 = .ok (.aload_n 0, 1) := by decide +kernel
theorem dX12_readTownLine_29 : decode cX12_readTownLine 29 = .ok (.ldc 183, 2) := by decide +kernel
theorem dX12_readTownLine_31 : decode cX12_readTownLine 31 = .ok (.invokevirtual 119, 3) := by decide +kernel
theorem dX12_readTownLine_34 : decode cX12_readTownLine 34 = .ok (.ifCond .eq 8, 3) := by decide +kernel
theorem dX12_readTownLine_37 : decode cX12_readTownLine 37 = .ok (.aload_n 0, 1) := by decide +kernel
theorem dX12_readTownLine_38 : decode cX12_readTownLine 38 = .ok (.invokevirtual 185, 3) := by decide +kernel
theorem dX12_readTownLine_41 : decode cX12_readTownLine 41 = .ok (.ireturn, 1) := by decide +kernel
theorem dX12_readTownLine_42 : decode cX12_readTownLine 42 = .ok (.aload_n 0, 1) := by decide +kernel
theorem dX12_readTownLine_43 : decode cX12_readTownLine 43 = .ok (.ldc 188, 2) := by decide +kernel
theorem dX12_readTownLine_45 : decode cX12_readTownLine 45 = .ok (.invokevirtual 119, 3) := by decide +kernel
theorem dX12_readTownLine_48 : decode cX12_readTownLine 48 = .ok (.ifCond .eq 8, 3) := by decide +kernel
theorem dX12_readTownLine_51 : decode cX12_readTownLine 51 = .ok (.aload_n 0, 1) := by decide +kernel
theorem dX12_readTownLine_52 : decode cX12_readTownLine 52 = .ok (.invokevirtual 190, 3) := by decide +kernel
theorem dX12_readTownLine_55 : decode cX12_readTownLine 55 = .ok (.ireturn, 1) := by decide +kernel
theorem dX12_readTownLine_56 : decode cX12_readTownLine 56 = .ok (.aload_n 0, 1) := by decide +kernel
theorem dX12_readTownLine_57 : decode cX12_readTownLine 57 = .ok (.ldc 193, 2) := by decide +kernel
theorem dX12_readTownLine_59 : decode cX12_readTownLine 59 = .ok (.invokevirtual 119, 3) := by decide +kernel
theorem dX12_readTownLine_62 : decode cX12_readTownLine 62 = .ok (.ifCond .eq 13, 3) := by decide +kernel
theorem dX12_readTownLine_65 : decode cX12_readTownLine 65 = .ok (.aload_n 0, 1) := by decide +kernel
theorem dX12_readTownLine_66 : decode cX12_readTownLine 66 = .ok (.iconst 5, 1) := by decide +kernel
theorem dX12_readTownLine_67 : decode cX12_readTownLine 67 = .ok (.iconst 0, 1) := by decide +kernel
theorem dX12_readTownLine_68 : decode cX12_readTownLine 68 = .ok (.sipush 999, 3) := by decide +kernel
theorem dX12_readTownLine_71 : decode cX12_readTownLine 71 = .ok (.invokevirtual 169, 3) := by decide +kernel
theorem dX12_readTownLine_74 : decode cX12_readTownLine 74 = .ok (.ireturn, 1) := by decide +kernel
theorem dX12_readTownLine_75 : decode cX12_readTownLine 75 = .ok (.aload_n 0, 1) := by decide +kernel
theorem dX12_readTownLine_76 : decode cX12_readTownLine 76 = .ok (.ldc 195, 2) := by decide +kernel
theorem dX12_readTownLine_78 : decode cX12_readTownLine 78 = .ok (.invokevirtual 119, 3) := by decide +kernel
theorem dX12_readTownLine_81 : decode cX12_readTownLine 81 = .ok (.ifCond .eq 13, 3) := by decide +kernel
theorem dX12_readTownLine_84 : decode cX12_readTownLine 84 = .ok (.aload_n 0, 1) := by decide +kernel
theorem dX12_readTownLine_85 : decode cX12_readTownLine 85 = .ok (.bipush 7, 2) := by decide +kernel
theorem dX12_readTownLine_87 : decode cX12_readTownLine 87 = .ok (.iconst 0, 1) := by decide +kernel
theorem dX12_readTownLine_88 : decode cX12_readTownLine 88 = .ok (.bipush 100, 2) := by decide +kernel
theorem dX12_readTownLine_90 : decode cX12_readTownLine 90 = .ok (.invokevirtual 169, 3) := by decide +kernel
theorem dX12_readTownLine_93 : decode cX12_readTownLine 93 = .ok (.ireturn, 1) := by decide +kernel
theorem dX12_readTownLine_94 : decode cX12_readTownLine 94 = .ok (.aload_n 0, 1) := by decide +kernel
theorem dX12_readTownLine_95 : decode cX12_readTownLine 95 = .ok (.ldc 197, 2) := by decide +kernel
theorem dX12_readTownLine_97 : decode cX12_readTownLine 97 = .ok (.invokevirtual 119, 3) := by decide +kernel
theorem dX12_readTownLine_100 : decode cX12_readTownLine 100 = .ok (.ifCond .eq 13, 3) := by decide +kernel
theorem dX12_readTownLine_103 : decode cX12_readTownLine 103 = .ok (.aload_n 0, 1) := by decide +kernel
theorem dX12_readTownLine_104 : decode cX12_readTownLine 104 = .ok (.iconst 4, 1) := by decide +kernel
theorem dX12_readTownLine_105 : decode cX12_readTownLine 105 = .ok (.iconst 0, 1) := by decide +kernel
theorem dX12_readTownLine_106 : decode cX12_readTownLine 106 = .ok (.sipush 999, 3) := by decide +kernel
theorem dX12_readTownLine_109 : decode cX12_readTownLine 109 = .ok (.invokevirtual 169, 3) := by decide +kernel
theorem dX12_readTownLine_112 : decode cX12_readTownLine 112 = .ok (.ireturn, 1) := by decide +kernel
theorem dX12_readTownLine_113 : decode cX12_readTownLine 113 = .ok (.aload_n 0, 1) := by decide +kernel
theorem dX12_readTownLine_114 : decode cX12_readTownLine 114 = .ok (.ldc 199, 2) := by decide +kernel
theorem dX12_readTownLine_116 : decode cX12_readTownLine 116 = .ok (.invokevirtual 119, 3) := by decide +kernel
theorem dX12_readTownLine_119 : decode cX12_readTownLine 119 = .ok (.ifCond .ne 5, 3) := by decide +kernel
theorem dX12_readTownLine_122 : decode cX12_readTownLine 122 = .ok (.iconst 0, 1) := by decide +kernel
theorem dX12_readTownLine_123 : decode cX12_readTownLine 123 = .ok (.ireturn, 1) := by decide +kernel
theorem dX12_readTownLine_124 : decode cX12_readTownLine 124 = .ok (.aload_n 0, 1) := by decide +kernel
theorem dX12_readTownLine_125 : decode cX12_readTownLine 125 = .ok (.getfield 13, 3) := by decide +kernel
theorem dX12_readTownLine_128 : decode cX12_readTownLine 128 = .ok (.bipush 6, 2) := by decide +kernel
theorem dX12_readTownLine_130 : decode cX12_readTownLine 130 = .ok (.iconst 1, 1) := by decide +kernel
theorem dX12_readTownLine_131 : decode cX12_readTownLine 131 = .ok (.iastore, 1) := by decide +kernel
theorem dX12_readTownLine_132 : decode cX12_readTownLine 132 = .ok (.iconst 1, 1) := by decide +kernel
theorem dX12_readTownLine_133 : decode cX12_readTownLine 133 = .ok (.ireturn, 1) := by decide +kernel
theorem dX12_emits_0 : decode cX12_emits 0 = .ok (.aload_n 0, 1) := by decide +kernel
theorem dX12_emits_1 : decode cX12_emits 1 = .ok (.getfield 13, 3) := by decide +kernel
theorem dX12_emits_4 : decode cX12_emits 4 = .ok (.sipush 1262, 3) := by decide +kernel
theorem dX12_emits_7 : decode cX12_emits 7 = .ok (.iconst 2, 1) := by decide +kernel
theorem dX12_emits_8 : decode cX12_emits 8 = .ok (.aload_n 0, 1) := by decide +kernel
theorem dX12_emits_9 : decode cX12_emits 9 = .ok (.getfield 201, 3) := by decide +kernel
theorem dX12_emits_12 : decode cX12_emits 12 = .ok (.imul, 1) := by decide +kernel
theorem dX12_emits_13 : decode cX12_emits 13 = .ok (.iadd, 1) := by decide +kernel
theorem dX12_emits_14 : decode cX12_emits 14 = .ok (.iload_n 1, 1) := by decide +kernel
theorem dX12_emits_15 : decode cX12_emits 15 = .ok (.iastore, 1) := by decide +kernel
theorem dX12_emits_16 : decode cX12_emits 16 = .ok (.aload_n 0, 1) := by decide +kernel
theorem dX12_emits_17 : decode cX12_emits 17 = .ok (.getfield 13, 3) := by decide +kernel
theorem dX12_emits_20 : decode cX12_emits 20 = .ok (.sipush 1262, 3) := by decide +kernel
theorem dX12_emits_23 : decode cX12_emits 23 = .ok (.iconst 2, 1) := by decide +kernel
theorem dX12_emits_24 : decode cX12_emits 24 = .ok (.aload_n 0, 1) := by decide +kernel
theorem dX12_emits_25 : decode cX12_emits 25 = .ok (.getfield 201, 3) := by decide +kernel
theorem dX12_emits_28 : decode cX12_emits 28 = .ok (.imul, 1) := by decide +kernel
theorem dX12_emits_29 : decode cX12_emits 29 = .ok (.iadd, 1) := by decide +kernel
theorem dX12_emits_30 : decode cX12_emits 30 = .ok (.iconst 1, 1) := by decide +kernel
theorem dX12_emits_31 : decode cX12_emits 31 = .ok (.iadd, 1) := by decide +kernel
theorem dX12_emits_32 : decode cX12_emits 32 = .ok (.iload_n 2, 1) := by decide +kernel
theorem dX12_emits_33 : decode cX12_emits 33 = .ok (.iastore, 1) := by decide +kernel
theorem dX12_emits_34 : decode cX12_emits 34 = .ok (.aload_n 0, 1) := by decide +kernel
theorem dX12_emits_35 : decode cX12_emits 35 = .ok (.dup, 1) := by decide +kernel
theorem dX12_emits_36 : decode cX12_emits 36 = .ok (.getfield 201, 3) := by decide +kernel
theorem dX12_emits_39 : decode cX12_emits 39 = .ok (.iconst 1, 1) := by decide +kernel
theorem dX12_emits_40 : decode cX12_emits 40 = .ok (.iadd, 1) := by decide +kernel
theorem dX12_emits_41 : decode cX12_emits 41 = .ok (.putfield 201, 3) := by decide +kernel
theorem dX12_emits_44 : decode cX12_emits 44 = .ok (.return_, 1) := by decide +kernel
theorem dX12_wordOfPart_0 : decode cX12_wordOfPart 0 = .ok (.aload_n 0, 1) := by decide +kernel
theorem dX12_wordOfPart_1 : decode cX12_wordOfPart 1 = .ok (.ldc 183, 2) := by decide +kernel
theorem dX12_wordOfPart_3 : decode cX12_wordOfPart 3 = .ok (.invokevirtual 119, 3) := by decide +kernel
theorem dX12_wordOfPart_6 : decode cX12_wordOfPart 6 = .ok (.ifCond .eq 5, 3) := by decide +kernel
theorem dX12_wordOfPart_9 : decode cX12_wordOfPart 9 = .ok (.iconst 0, 1) := by decide +kernel
theorem dX12_wordOfPart_10 : decode cX12_wordOfPart 10 = .ok (.ireturn, 1) := by decide +kernel
theorem dX12_wordOfPart_11 : decode cX12_wordOfPart 11 = .ok (.aload_n 0, 1) := by decide +kernel
theorem dX12_wordOfPart_12 : decode cX12_wordOfPart 12 = .ok (.ldc 150, 2) := by decide +kernel
theorem dX12_wordOfPart_14 : decode cX12_wordOfPart 14 = .ok (.invokevirtual 119, 3) := by decide +kernel
theorem dX12_wordOfPart_17 : decode cX12_wordOfPart 17 = .ok (.ifCond .eq 5, 3) := by decide +kernel
theorem dX12_wordOfPart_20 : decode cX12_wordOfPart 20 = .ok (.iconst 1, 1) := by decide +kernel
theorem dX12_wordOfPart_21 : decode cX12_wordOfPart 21 = .ok (.ireturn, 1) := by decide +kernel
theorem dX12_wordOfPart_22 : decode cX12_wordOfPart 22 = .ok (.aload_n 0, 1) := by decide +kernel
theorem dX12_wordOfPart_23 : decode cX12_wordOfPart 23 = .ok (.ldc 148, 2) := by decide +kernel
theorem dX12_wordOfPart_25 : decode cX12_wordOfPart 25 = .ok (.invokevirtual 119, 3) := by decide +kernel
theorem dX12_wordOfPart_28 : decode cX12_wordOfPart 28 = .ok (.ifCond .eq 5, 3) := by decide +kernel
theorem dX12_wordOfPart_31 : decode cX12_wordOfPart 31 = .ok (.iconst 2, 1) := by decide +kernel
theorem dX12_wordOfPart_32 : decode cX12_wordOfPart 32 = .ok (.ireturn, 1) := by decide +kernel
theorem dX12_wordOfPart_33 : decode cX12_wordOfPart 33 = .ok (.aload_n 0, 1) := by decide +kernel
theorem dX12_wordOfPart_34 : decode cX12_wordOfPart 34 = .ok (.ldc 126, 2) := by decide +kernel
theorem dX12_wordOfPart_36 : decode cX12_wordOfPart 36 = .ok (.invokevirtual 119, 3) := by decide +kernel
theorem dX12_wordOfPart_39 : decode cX12_wordOfPart 39 = .ok (.ifCond .eq 5, 3) := by decide +kernel
theorem dX12_wordOfPart_42 : decode cX12_wordOfPart 42 = .ok (.iconst 3, 1) := by decide +kernel
theorem dX12_wordOfPart_43 : decode cX12_wordOfPart 43 = .ok (.ireturn, 1) := by decide +kernel
theorem dX12_wordOfPart_44 : decode cX12_wordOfPart 44 = .ok (.aload_n 0, 1) := by decide +kernel
theorem dX12_wordOfPart_45 : decode cX12_wordOfPart 45 = .ok (.ldc 142, 2) := by decide +kernel
theorem dX12_wordOfPart_47 : decode cX12_wordOfPart 47 = .ok (.invokevirtual 119, 3) := by decide +kernel
theorem dX12_wordOfPart_50 : decode cX12_wordOfPart 50 = .ok (.ifCond .eq 5, 3) := by decide +kernel
theorem dX12_wordOfPart_53 : decode cX12_wordOfPart 53 = .ok (.iconst 4, 1) := by decide +kernel
theorem dX12_wordOfPart_54 : decode cX12_wordOfPart 54 = .ok (.ireturn, 1) := by decide +kernel
theorem dX12_wordOfPart_55 : decode cX12_wordOfPart 55 = .ok (.aload_n 0, 1) := by decide +kernel
theorem dX12_wordOfPart_56 : decode cX12_wordOfPart 56 = .ok (.ldc 144, 2) := by decide +kernel
theorem dX12_wordOfPart_58 : decode cX12_wordOfPart 58 = .ok (.invokevirtual 119, 3) := by decide +kernel
theorem dX12_wordOfPart_61 : decode cX12_wordOfPart 61 = .ok (.ifCond .eq 5, 3) := by decide +kernel
theorem dX12_wordOfPart_64 : decode cX12_wordOfPart 64 = .ok (.iconst 5, 1) := by decide +kernel
theorem dX12_wordOfPart_65 : decode cX12_wordOfPart 65 = .ok (.ireturn, 1) := by decide +kernel
theorem dX12_wordOfPart_66 : decode cX12_wordOfPart 66 = .ok (.aload_n 0, 1) := by decide +kernel
theorem dX12_wordOfPart_67 : decode cX12_wordOfPart 67 = .ok (.ldc 188, 2) := by decide +kernel
theorem dX12_wordOfPart_69 : decode cX12_wordOfPart 69 = .ok (.invokevirtual 119, 3) := by decide +kernel
theorem dX12_wordOfPart_72 : decode cX12_wordOfPart 72 = .ok (.ifCond .eq 6, 3) := by decide +kernel
theorem dX12_wordOfPart_75 : decode cX12_wordOfPart 75 = .ok (.bipush 6, 2) := by decide +kernel
theorem dX12_wordOfPart_77 : decode cX12_wordOfPart 77 = .ok (.ireturn, 1) := by decide +kernel
theorem dX12_wordOfPart_78 : decode cX12_wordOfPart 78 = .ok (.aload_n 0, 1) := by decide +kernel
theorem dX12_wordOfPart_79 : decode cX12_wordOfPart 79 = .ok (.ldc 204, 2) := by decide +kernel
theorem dX12_wordOfPart_81 : decode cX12_wordOfPart 81 = .ok (.invokevirtual 119, 3) := by decide +kernel
theorem dX12_wordOfPart_84 : decode cX12_wordOfPart 84 = .ok (.ifCond .eq 8, 3) := by decide +kernel
theorem dX12_wordOfPart_87 : decode cX12_wordOfPart 87 = .ok (.bipush 7, 2) := by decide +kernel
theorem dX12_wordOfPart_89 : decode cX12_wordOfPart 89 = .ok (.goto 4, 3) := by decide +kernel
theorem dX12_wordOfPart_92 : decode cX12_wordOfPart 92 = .ok (.iconst (-1), 1) := by decide +kernel
theorem dX12_wordOfPart_93 : decode cX12_wordOfPart 93 = .ok (.ireturn, 1) := by decide +kernel
theorem dX12_readPart_0 : decode cX12_readPart 0 = .ok (.aload_n 0, 1) := by decide +kernel
theorem dX12_readPart_1 : decode cX12_readPart 1 = .ok (.invokevirtual 116, 3) := by decide +kernel
theorem dX12_readPart_4 : decode cX12_readPart 4 = .ok (.aload_n 0, 1) := by decide +kernel
theorem dX12_readPart_5 : decode cX12_readPart 5 = .ok (.getfield 92, 3) := by decide +kernel
theorem dX12_readPart_8 : decode cX12_readPart 8 = .ok (.aload_n 0, 1) := by decide +kernel
theorem dX12_readPart_9 : decode cX12_readPart 9 = .ok (.getfield 101, 3) := by decide +kernel
theorem dX12_readPart_12 : decode cX12_readPart 12 = .ok (.if_icmp .ne 7, 3) := by decide +kernel
theorem dX12_readPart_15 : decode cX12_readPart 15 = .ok (.iconst 1, 1) := by decide +kernel
theorem dX12_readPart_16 : decode cX12_readPart 16 = .ok (.goto 4, 3) := by decide +kernel
theorem dX12_readPart_19 : decode cX12_readPart 19 = .ok (.iconst 0, 1) := by decide +kernel
theorem dX12_readPart_20 : decode cX12_readPart 20 = .ok (.istore_n 1, 1) := by decide +kernel
theorem dX12_readPart_21 : decode cX12_readPart 21 = .ok (.iload_n 1, 1) := by decide +kernel
theorem dX12_readPart_22 : decode cX12_readPart 22 = .ok (.ifCond .eq 14, 3) := by decide +kernel
theorem dX12_readPart_25 : decode cX12_readPart 25 = .ok (.aload_n 0, 1) := by decide +kernel
theorem dX12_readPart_26 : decode cX12_readPart 26 = .ok (.iconst 0, 1) := by decide +kernel
theorem dX12_readPart_27 : decode cX12_readPart 27 = .ok (.sipush 999, 3) := by decide +kernel
theorem dX12_readPart_30 : decode cX12_readPart 30 = .ok (.invokevirtual 123, 3) := by decide +kernel
theorem dX12_readPart_33 : decode cX12_readPart 33 = .ok (.goto 7, 3) := by decide +kernel
theorem dX12_readPart_36 : decode cX12_readPart 36 = .ok (.aload_n 0, 1) := by decide +kernel
theorem dX12_readPart_37 : decode cX12_readPart 37 = .ok (.invokevirtual 206, 3) := by decide +kernel
theorem dX12_readPart_40 : decode cX12_readPart 40 = .ok (.istore_n 2, 1) := by decide +kernel
theorem dX12_readPart_41 : decode cX12_readPart 41 = .ok (.aload_n 0, 1) := by decide +kernel
theorem dX12_readPart_42 : decode cX12_readPart 42 = .ok (.iload_n 1, 1) := by decide +kernel
theorem dX12_readPart_43 : decode cX12_readPart 43 = .ok (.ifCond .eq 8, 3) := by decide +kernel
theorem dX12_readPart_46 : decode cX12_readPart 46 = .ok (.bipush 11, 2) := by decide +kernel
theorem dX12_readPart_48 : decode cX12_readPart 48 = .ok (.goto 4, 3) := by decide +kernel
theorem dX12_readPart_51 : decode cX12_readPart 51 = .ok (.iload_n 2, 1) := by decide +kernel
theorem dX12_readPart_52 : decode cX12_readPart 52 = .ok (.iload_n 1, 1) := by decide +kernel
theorem dX12_readPart_53 : decode cX12_readPart 53 = .ok (.ifCond .eq 7, 3) := by decide +kernel
theorem dX12_readPart_56 : decode cX12_readPart 56 = .ok (.iload_n 2, 1) := by decide +kernel
theorem dX12_readPart_57 : decode cX12_readPart 57 = .ok (.goto 4, 3) := by decide +kernel
theorem dX12_readPart_60 : decode cX12_readPart 60 = .ok (.iconst 0, 1) := by decide +kernel
theorem dX12_readPart_61 : decode cX12_readPart 61 = .ok (.invokevirtual 209, 3) := by decide +kernel
theorem dX12_readPart_64 : decode cX12_readPart 64 = .ok (.iload_n 2, 1) := by decide +kernel
theorem dX12_readPart_65 : decode cX12_readPart 65 = .ok (.ifCond .lt 7, 3) := by decide +kernel
theorem dX12_readPart_68 : decode cX12_readPart 68 = .ok (.iconst 1, 1) := by decide +kernel
theorem dX12_readPart_69 : decode cX12_readPart 69 = .ok (.goto 4, 3) := by decide +kernel
theorem dX12_readPart_72 : decode cX12_readPart 72 = .ok (.iconst 0, 1) := by decide +kernel
theorem dX12_readPart_73 : decode cX12_readPart 73 = .ok (.ireturn, 1) := by decide +kernel
theorem dX12_readSum_0 : decode cX12_readSum 0 = .ok (.aload_n 0, 1) := by decide +kernel
theorem dX12_readSum_1 : decode cX12_readSum 1 = .ok (.invokevirtual 213, 3) := by decide +kernel
theorem dX12_readSum_4 : decode cX12_readSum 4 = .ok (.ifCond .ne 5, 3) := by decide +kernel
theorem dX12_readSum_7 : decode cX12_readSum 7 = .ok (.iconst 0, 1) := by decide +kernel
theorem dX12_readSum_8 : decode cX12_readSum 8 = .ok (.ireturn, 1) := by decide +kernel
theorem dX12_readSum_9 : decode cX12_readSum 9 = .ok (.aload_n 0, 1) := by decide +kernel
theorem dX12_readSum_10 : decode cX12_readSum 10 = .ok (.bipush 43, 2) := by decide +kernel
theorem dX12_readSum_12 : decode cX12_readSum 12 = .ok (.invokevirtual 216, 3) := by decide +kernel
theorem dX12_readSum_15 : decode cX12_readSum 15 = .ok (.ifCond .eq 22, 3) := by decide +kernel
theorem dX12_readSum_18 : decode cX12_readSum 18 = .ok (.aload_n 0, 1) := by decide +kernel
theorem dX12_readSum_19 : decode cX12_readSum 19 = .ok (.invokevirtual 213, 3) := by decide +kernel
theorem dX12_readSum_22 : decode cX12_readSum 22 = .ok (.ifCond .ne 5, 3) := by decide +kernel
theorem dX12_readSum_25 : decode cX12_readSum 25 = .ok (.iconst 0, 1) := by decide +kernel
theorem dX12_readSum_26 : decode cX12_readSum 26 = .ok (.ireturn, 1) := by decide +kernel
theorem dX12_readSum_27 : decode cX12_readSum 27 = .ok (.aload_n 0, 1) := by decide +kernel
theorem dX12_readSum_28 : decode cX12_readSum 28 = .ok (.bipush 12, 2) := by decide +kernel
theorem dX12_readSum_30 : decode cX12_readSum 30 = .ok (.iconst 0, 1) := by decide +kernel
theorem dX12_readSum_31 : decode cX12_readSum 31 = .ok (.invokevirtual 209, 3) := by decide +kernel
theorem dX12_readSum_34 : decode cX12_readSum 34 = .ok (.goto (-25), 3) := by decide +kernel
theorem dX12_readSum_37 : decode cX12_readSum 37 = .ok (.iconst 1, 1) := by decide +kernel
theorem dX12_readSum_38 : decode cX12_readSum 38 = .ok (.ireturn, 1) := by decide +kernel
theorem dX12_readTag_0 : decode cX12_readTag 0 = .ok (.aload_n 0, 1) := by decide +kernel
theorem dX12_readTag_1 : decode cX12_readTag 1 = .ok (.invokevirtual 116, 3) := by decide +kernel
theorem dX12_readTag_4 : decode cX12_readTag 4 = .ok (.aload_n 0, 1) := by decide +kernel
theorem dX12_readTag_5 : decode cX12_readTag 5 = .ok (.ldc 156, 2) := by decide +kernel
theorem dX12_readTag_7 : decode cX12_readTag 7 = .ok (.invokevirtual 119, 3) := by decide +kernel
theorem dX12_readTag_10 : decode cX12_readTag 10 = .ok (.ifCond .eq 8, 3) := by decide +kernel
theorem dX12_readTag_13 : decode cX12_readTag 13 = .ok (.bipush 8, 2) := by decide +kernel
theorem dX12_readTag_15 : decode cX12_readTag 15 = .ok (.goto 32, 3) := by decide +kernel
theorem dX12_readTag_18 : decode cX12_readTag 18 = .ok (.aload_n 0, 1) := by decide +kernel
theorem dX12_readTag_19 : decode cX12_readTag 19 = .ok (.ldc 219, 2) := by decide +kernel
theorem dX12_readTag_21 : decode cX12_readTag 21 = .ok (.invokevirtual 119, 3) := by decide +kernel
theorem dX12_readTag_24 : decode cX12_readTag 24 = .ok (.ifCond .eq 8, 3) := by decide +kernel
theorem dX12_readTag_27 : decode cX12_readTag 27 = .ok (.bipush 9, 2) := by decide +kernel
theorem dX12_readTag_29 : decode cX12_readTag 29 = .ok (.goto 18, 3) := by decide +kernel
theorem dX12_readTag_32 : decode cX12_readTag 32 = .ok (.aload_n 0, 1) := by decide +kernel
theorem dX12_readTag_33 : decode cX12_readTag 33 = .ok (.ldc 199, 2) := by decide +kernel
theorem dX12_readTag_35 : decode cX12_readTag 35 = .ok (.invokevirtual 119, 3) := by decide +kernel
theorem dX12_readTag_38 : decode cX12_readTag 38 = .ok (.ifCond .eq 8, 3) := by decide +kernel
theorem dX12_readTag_41 : decode cX12_readTag 41 = .ok (.bipush 10, 2) := by decide +kernel
theorem dX12_readTag_43 : decode cX12_readTag 43 = .ok (.goto 4, 3) := by decide +kernel
theorem dX12_readTag_46 : decode cX12_readTag 46 = .ok (.iconst (-1), 1) := by decide +kernel
theorem dX12_readTag_47 : decode cX12_readTag 47 = .ok (.istore_n 1, 1) := by decide +kernel
theorem dX12_readTag_48 : decode cX12_readTag 48 = .ok (.iload_n 1, 1) := by decide +kernel
theorem dX12_readTag_49 : decode cX12_readTag 49 = .ok (.ifCond .lt 12, 3) := by decide +kernel
theorem dX12_readTag_52 : decode cX12_readTag 52 = .ok (.aload_n 0, 1) := by decide +kernel
theorem dX12_readTag_53 : decode cX12_readTag 53 = .ok (.iload_n 1, 1) := by decide +kernel
theorem dX12_readTag_54 : decode cX12_readTag 54 = .ok (.iconst 0, 1) := by decide +kernel
theorem dX12_readTag_55 : decode cX12_readTag 55 = .ok (.invokevirtual 209, 3) := by decide +kernel
theorem dX12_readTag_58 : decode cX12_readTag 58 = .ok (.goto 11, 3) := by decide +kernel
theorem dX12_readTag_61 : decode cX12_readTag 61 = .ok (.aload_n 0, 1) := by decide +kernel
theorem dX12_readTag_62 : decode cX12_readTag 62 = .ok (.aload_n 0, 1) := by decide +kernel
theorem dX12_readTag_63 : decode cX12_readTag 63 = .ok (.getfield 101, 3) := by decide +kernel
theorem dX12_readTag_66 : decode cX12_readTag 66 = .ok (.putfield 92, 3) := by decide +kernel
theorem dX12_readTag_69 : decode cX12_readTag 69 = .ok (.iload_n 1, 1) := by decide +kernel
theorem dX12_readTag_70 : decode cX12_readTag 70 = .ok (.ifCond .lt 7, 3) := by decide +kernel
theorem dX12_readTag_73 : decode cX12_readTag 73 = .ok (.iconst 1, 1) := by decide +kernel
theorem dX12_readTag_74 : decode cX12_readTag 74 = .ok (.goto 4, 3) := by decide +kernel
theorem dX12_readTag_77 : decode cX12_readTag 77 = .ok (.iconst 0, 1) := by decide +kernel
theorem dX12_readTag_78 : decode cX12_readTag 78 = .ok (.ireturn, 1) := by decide +kernel
theorem dX12_readAtom_0 : decode cX12_readAtom 0 = .ok (.aload_n 0, 1) := by decide +kernel
theorem dX12_readAtom_1 : decode cX12_readAtom 1 = .ok (.bipush 40, 2) := by decide +kernel
theorem dX12_readAtom_3 : decode cX12_readAtom 3 = .ok (.invokevirtual 216, 3) := by decide +kernel
theorem dX12_readAtom_6 : decode cX12_readAtom 6 = .ok (.ifCond .eq 50, 3) := by decide +kernel
theorem dX12_readAtom_9 : decode cX12_readAtom 9 = .ok (.aload_n 0, 1) := by decide +kernel
theorem dX12_readAtom_10 : decode cX12_readAtom 10 = .ok (.getfield 221, 3) := by decide +kernel
theorem dX12_readAtom_13 : decode cX12_readAtom 13 = .ok (.bipush 6, 2) := by decide +kernel
theorem dX12_readAtom_15 : decode cX12_readAtom 15 = .ok (.if_icmp .ne 5, 3) := by decide +kernel
theorem dX12_readAtom_18 : decode cX12_readAtom 18 = .ok (.iconst 0, 1) := by decide +kernel
theorem dX12_readAtom_19 : decode cX12_readAtom 19 = .ok (.ireturn, 1) := by decide +kernel
theorem dX12_readAtom_20 : decode cX12_readAtom 20 = .ok (.aload_n 0, 1) := by decide +kernel
theorem dX12_readAtom_21 : decode cX12_readAtom 21 = .ok (.dup, 1) := by decide +kernel
theorem dX12_readAtom_22 : decode cX12_readAtom 22 = .ok (.getfield 221, 3) := by decide +kernel
theorem dX12_readAtom_25 : decode cX12_readAtom 25 = .ok (.iconst 1, 1) := by decide +kernel
theorem dX12_readAtom_26 : decode cX12_readAtom 26 = .ok (.iadd, 1) := by decide +kernel
theorem dX12_readAtom_27 : decode cX12_readAtom 27 = .ok (.putfield 221, 3) := by decide +kernel
theorem dX12_readAtom_30 : decode cX12_readAtom 30 = .ok (.aload_n 0, 1) := by decide +kernel
theorem dX12_readAtom_31 : decode cX12_readAtom 31 = .ok (.invokevirtual 223, 3) := by decide +kernel
theorem dX12_readAtom_34 : decode cX12_readAtom 34 = .ok (.ifCond .ne 5, 3) := by decide +kernel
theorem dX12_readAtom_37 : decode cX12_readAtom 37 = .ok (.iconst 0, 1) := by decide +kernel
theorem dX12_readAtom_38 : decode cX12_readAtom 38 = .ok (.ireturn, 1) := by decide +kernel
theorem dX12_readAtom_39 : decode cX12_readAtom 39 = .ok (.aload_n 0, 1) := by decide +kernel
theorem dX12_readAtom_40 : decode cX12_readAtom 40 = .ok (.dup, 1) := by decide +kernel
theorem dX12_readAtom_41 : decode cX12_readAtom 41 = .ok (.getfield 221, 3) := by decide +kernel
theorem dX12_readAtom_44 : decode cX12_readAtom 44 = .ok (.iconst 1, 1) := by decide +kernel
theorem dX12_readAtom_45 : decode cX12_readAtom 45 = .ok (.isub, 1) := by decide +kernel
theorem dX12_readAtom_46 : decode cX12_readAtom 46 = .ok (.putfield 221, 3) := by decide +kernel
theorem dX12_readAtom_49 : decode cX12_readAtom 49 = .ok (.aload_n 0, 1) := by decide +kernel
theorem dX12_readAtom_50 : decode cX12_readAtom 50 = .ok (.bipush 41, 2) := by decide +kernel
theorem dX12_readAtom_52 : decode cX12_readAtom 52 = .ok (.invokevirtual 216, 3) := by decide +kernel
theorem dX12_readAtom_55 : decode cX12_readAtom 55 = .ok (.ireturn, 1) := by decide +kernel
theorem dX12_readAtom_56 : decode cX12_readAtom 56 = .ok (.aload_n 0, 1) := by decide +kernel
theorem dX12_readAtom_57 : decode cX12_readAtom 57 = .ok (.ldc 226, 2) := by decide +kernel
theorem dX12_readAtom_59 : decode cX12_readAtom 59 = .ok (.invokevirtual 136, 3) := by decide +kernel
theorem dX12_readAtom_62 : decode cX12_readAtom 62 = .ok (.ifCond .eq 52, 3) := by decide +kernel
theorem dX12_readAtom_65 : decode cX12_readAtom 65 = .ok (.aload_n 0, 1) := by decide +kernel
theorem dX12_readAtom_66 : decode cX12_readAtom 66 = .ok (.getfield 221, 3) := by decide +kernel
theorem dX12_readAtom_69 : decode cX12_readAtom 69 = .ok (.bipush 6, 2) := by decide +kernel
theorem dX12_readAtom_71 : decode cX12_readAtom 71 = .ok (.if_icmp .ne 5, 3) := by decide +kernel
theorem dX12_readAtom_74 : decode cX12_readAtom 74 = .ok (.iconst 0, 1) := by decide +kernel
theorem dX12_readAtom_75 : decode cX12_readAtom 75 = .ok (.ireturn, 1) := by decide +kernel
theorem dX12_readAtom_76 : decode cX12_readAtom 76 = .ok (.aload_n 0, 1) := by decide +kernel
theorem dX12_readAtom_77 : decode cX12_readAtom 77 = .ok (.dup, 1) := by decide +kernel
theorem dX12_readAtom_78 : decode cX12_readAtom 78 = .ok (.getfield 221, 3) := by decide +kernel
theorem dX12_readAtom_81 : decode cX12_readAtom 81 = .ok (.iconst 1, 1) := by decide +kernel
theorem dX12_readAtom_82 : decode cX12_readAtom 82 = .ok (.iadd, 1) := by decide +kernel
theorem dX12_readAtom_83 : decode cX12_readAtom 83 = .ok (.putfield 221, 3) := by decide +kernel
theorem dX12_readAtom_86 : decode cX12_readAtom 86 = .ok (.aload_n 0, 1) := by decide +kernel
theorem dX12_readAtom_87 : decode cX12_readAtom 87 = .ok (.invokevirtual 228, 3) := by decide +kernel
theorem dX12_readAtom_90 : decode cX12_readAtom 90 = .ok (.ifCond .ne 5, 3) := by decide +kernel
theorem dX12_readAtom_93 : decode cX12_readAtom 93 = .ok (.iconst 0, 1) := by decide +kernel
theorem dX12_readAtom_94 : decode cX12_readAtom 94 = .ok (.ireturn, 1) := by decide +kernel
theorem dX12_readAtom_95 : decode cX12_readAtom 95 = .ok (.aload_n 0, 1) := by decide +kernel
theorem dX12_readAtom_96 : decode cX12_readAtom 96 = .ok (.dup, 1) := by decide +kernel
theorem dX12_readAtom_97 : decode cX12_readAtom 97 = .ok (.getfield 221, 3) := by decide +kernel
theorem dX12_readAtom_100 : decode cX12_readAtom 100 = .ok (.iconst 1, 1) := by decide +kernel
theorem dX12_readAtom_101 : decode cX12_readAtom 101 = .ok (.isub, 1) := by decide +kernel
theorem dX12_readAtom_102 : decode cX12_readAtom 102 = .ok (.putfield 221, 3) := by decide +kernel
theorem dX12_readAtom_105 : decode cX12_readAtom 105 = .ok (.aload_n 0, 1) := by decide +kernel
theorem dX12_readAtom_106 : decode cX12_readAtom 106 = .ok (.bipush 15, 2) := by decide +kernel
theorem dX12_readAtom_108 : decode cX12_readAtom 108 = .ok (.iconst 0, 1) := by decide +kernel
theorem dX12_readAtom_109 : decode cX12_readAtom 109 = .ok (.invokevirtual 209, 3) := by decide +kernel
theorem dX12_readAtom_112 : decode cX12_readAtom 112 = .ok (.iconst 1, 1) := by decide +kernel
theorem dX12_readAtom_113 : decode cX12_readAtom 113 = .ok (.ireturn, 1) := by decide +kernel
theorem dX12_readAtom_114 : decode cX12_readAtom 114 = .ok (.aload_n 0, 1) := by decide +kernel
theorem dX12_readAtom_115 : decode cX12_readAtom 115 = .ok (.invokevirtual 231, 3) := by decide +kernel
theorem dX12_readAtom_118 : decode cX12_readAtom 118 = .ok (.ifCond .eq 5, 3) := by decide +kernel
theorem dX12_readAtom_121 : decode cX12_readAtom 121 = .ok (.iconst 1, 1) := by decide +kernel
theorem dX12_readAtom_122 : decode cX12_readAtom 122 = .ok (.ireturn, 1) := by decide +kernel
theorem dX12_readAtom_123 : decode cX12_readAtom 123 = .ok (.aload_n 0, 1) := by decide +kernel
theorem dX12_readAtom_124 : decode cX12_readAtom 124 = .ok (.invokevirtual 234, 3) := by decide +kernel
theorem dX12_readAtom_127 : decode cX12_readAtom 127 = .ok (.ifCond .ne 5, 3) := by decide +kernel
theorem dX12_readAtom_130 : decode cX12_readAtom 130 = .ok (.iconst 0, 1) := by decide +kernel
theorem dX12_readAtom_131 : decode cX12_readAtom 131 = .ok (.ireturn, 1) := by decide +kernel
theorem dX12_readAtom_132 : decode cX12_readAtom 132 = .ok (.aload_n 0, 1) := by decide +kernel
theorem dX12_readAtom_133 : decode cX12_readAtom 133 = .ok (.bipush 60, 2) := by decide +kernel
theorem dX12_readAtom_135 : decode cX12_readAtom 135 = .ok (.invokevirtual 216, 3) := by decide +kernel
theorem dX12_readAtom_138 : decode cX12_readAtom 138 = .ok (.istore_n 1, 1) := by decide +kernel
theorem dX12_readAtom_139 : decode cX12_readAtom 139 = .ok (.iload_n 1, 1) := by decide +kernel
theorem dX12_readAtom_140 : decode cX12_readAtom 140 = .ok (.ifCond .ne 12, 3) := by decide +kernel
theorem dX12_readAtom_143 : decode cX12_readAtom 143 = .ok (.aload_n 0, 1) := by decide +kernel
theorem dX12_readAtom_144 : decode cX12_readAtom 144 = .ok (.bipush 62, 2) := by decide +kernel
theorem dX12_readAtom_146 : decode cX12_readAtom 146 = .ok (.invokevirtual 216, 3) := by decide +kernel
theorem dX12_readAtom_149 : decode cX12_readAtom 149 = .ok (.ifCond .eq 10, 3) := by decide +kernel
theorem dX12_readAtom_152 : decode cX12_readAtom 152 = .ok (.aload_n 0, 1) := by decide +kernel
theorem dX12_readAtom_153 : decode cX12_readAtom 153 = .ok (.invokevirtual 234, 3) := by decide +kernel
theorem dX12_readAtom_156 : decode cX12_readAtom 156 = .ok (.ifCond .ne 5, 3) := by decide +kernel
theorem dX12_readAtom_159 : decode cX12_readAtom 159 = .ok (.iconst 0, 1) := by decide +kernel
theorem dX12_readAtom_160 : decode cX12_readAtom 160 = .ok (.ireturn, 1) := by decide +kernel
theorem dX12_readAtom_161 : decode cX12_readAtom 161 = .ok (.aload_n 0, 1) := by decide +kernel
theorem dX12_readAtom_162 : decode cX12_readAtom 162 = .ok (.iload_n 1, 1) := by decide +kernel
theorem dX12_readAtom_163 : decode cX12_readAtom 163 = .ok (.ifCond .eq 8, 3) := by decide +kernel
theorem dX12_readAtom_166 : decode cX12_readAtom 166 = .ok (.bipush 13, 2) := by decide +kernel
theorem dX12_readAtom_168 : decode cX12_readAtom 168 = .ok (.goto 5, 3) := by decide +kernel
theorem dX12_readAtom_171 : decode cX12_readAtom 171 = .ok (.bipush 14, 2) := by decide +kernel
theorem dX12_readAtom_173 : decode cX12_readAtom 173 = .ok (.iconst 0, 1) := by decide +kernel
theorem dX12_readAtom_174 : decode cX12_readAtom 174 = .ok (.invokevirtual 209, 3) := by decide +kernel
theorem dX12_readAtom_177 : decode cX12_readAtom 177 = .ok (.iconst 1, 1) := by decide +kernel
theorem dX12_readAtom_178 : decode cX12_readAtom 178 = .ok (.ireturn, 1) := by decide +kernel
theorem dX12_readAllOf_0 : decode cX12_readAllOf 0 = .ok (.aload_n 0, 1) := by decide +kernel
theorem dX12_readAllOf_1 : decode cX12_readAllOf 1 = .ok (.invokevirtual 228, 3) := by decide +kernel
theorem dX12_readAllOf_4 : decode cX12_readAllOf 4 = .ok (.ifCond .ne 5, 3) := by decide +kernel
theorem dX12_readAllOf_7 : decode cX12_readAllOf 7 = .ok (.iconst 0, 1) := by decide +kernel
theorem dX12_readAllOf_8 : decode cX12_readAllOf 8 = .ok (.ireturn, 1) := by decide +kernel
theorem dX12_readAllOf_9 : decode cX12_readAllOf 9 = .ok (.aload_n 0, 1) := by decide +kernel
theorem dX12_readAllOf_10 : decode cX12_readAllOf 10 = .ok (.ldc 237, 2) := by decide +kernel
theorem dX12_readAllOf_12 : decode cX12_readAllOf 12 = .ok (.invokevirtual 136, 3) := by decide +kernel
theorem dX12_readAllOf_15 : decode cX12_readAllOf 15 = .ok (.ifCond .eq 22, 3) := by decide +kernel
theorem dX12_readAllOf_18 : decode cX12_readAllOf 18 = .ok (.aload_n 0, 1) := by decide +kernel
theorem dX12_readAllOf_19 : decode cX12_readAllOf 19 = .ok (.invokevirtual 228, 3) := by decide +kernel
theorem dX12_readAllOf_22 : decode cX12_readAllOf 22 = .ok (.ifCond .ne 5, 3) := by decide +kernel
theorem dX12_readAllOf_25 : decode cX12_readAllOf 25 = .ok (.iconst 0, 1) := by decide +kernel
theorem dX12_readAllOf_26 : decode cX12_readAllOf 26 = .ok (.ireturn, 1) := by decide +kernel
theorem dX12_readAllOf_27 : decode cX12_readAllOf 27 = .ok (.aload_n 0, 1) := by decide +kernel
theorem dX12_readAllOf_28 : decode cX12_readAllOf 28 = .ok (.bipush 16, 2) := by decide +kernel
theorem dX12_readAllOf_30 : decode cX12_readAllOf 30 = .ok (.iconst 0, 1) := by decide +kernel
theorem dX12_readAllOf_31 : decode cX12_readAllOf 31 = .ok (.invokevirtual 209, 3) := by decide +kernel
theorem dX12_readAllOf_34 : decode cX12_readAllOf 34 = .ok (.goto (-25), 3) := by decide +kernel
theorem dX12_readAllOf_37 : decode cX12_readAllOf 37 = .ok (.iconst 1, 1) := by decide +kernel
theorem dX12_readAllOf_38 : decode cX12_readAllOf 38 = .ok (.ireturn, 1) := by decide +kernel
theorem dX12_readCond_0 : decode cX12_readCond 0 = .ok (.aload_n 0, 1) := by decide +kernel
theorem dX12_readCond_1 : decode cX12_readCond 1 = .ok (.invokevirtual 239, 3) := by decide +kernel
theorem dX12_readCond_4 : decode cX12_readCond 4 = .ok (.ifCond .ne 5, 3) := by decide +kernel
theorem dX12_readCond_7 : decode cX12_readCond 7 = .ok (.iconst 0, 1) := by decide +kernel
theorem dX12_readCond_8 : decode cX12_readCond 8 = .ok (.ireturn, 1) := by decide +kernel
theorem dX12_readCond_9 : decode cX12_readCond 9 = .ok (.aload_n 0, 1) := by decide +kernel
theorem dX12_readCond_10 : decode cX12_readCond 10 = .ok (.ldc 242, 2) := by decide +kernel
theorem dX12_readCond_12 : decode cX12_readCond 12 = .ok (.invokevirtual 136, 3) := by decide +kernel
theorem dX12_readCond_15 : decode cX12_readCond 15 = .ok (.ifCond .eq 22, 3) := by decide +kernel
theorem dX12_readCond_18 : decode cX12_readCond 18 = .ok (.aload_n 0, 1) := by decide +kernel
theorem dX12_readCond_19 : decode cX12_readCond 19 = .ok (.invokevirtual 239, 3) := by decide +kernel
theorem dX12_readCond_22 : decode cX12_readCond 22 = .ok (.ifCond .ne 5, 3) := by decide +kernel
theorem dX12_readCond_25 : decode cX12_readCond 25 = .ok (.iconst 0, 1) := by decide +kernel
theorem dX12_readCond_26 : decode cX12_readCond 26 = .ok (.ireturn, 1) := by decide +kernel
theorem dX12_readCond_27 : decode cX12_readCond 27 = .ok (.aload_n 0, 1) := by decide +kernel
theorem dX12_readCond_28 : decode cX12_readCond 28 = .ok (.bipush 17, 2) := by decide +kernel
theorem dX12_readCond_30 : decode cX12_readCond 30 = .ok (.iconst 0, 1) := by decide +kernel
theorem dX12_readCond_31 : decode cX12_readCond 31 = .ok (.invokevirtual 209, 3) := by decide +kernel
theorem dX12_readCond_34 : decode cX12_readCond 34 = .ok (.goto (-25), 3) := by decide +kernel
theorem dX12_readCond_37 : decode cX12_readCond 37 = .ok (.iconst 1, 1) := by decide +kernel
theorem dX12_readCond_38 : decode cX12_readCond 38 = .ok (.ireturn, 1) := by decide +kernel
theorem dX12_readLawLine_0 : decode cX12_readLawLine 0 = .ok (.sipush 1214, 3) := by decide +kernel
theorem dX12_readLawLine_3 : decode cX12_readLawLine 3 = .ok (.iconst 4, 1) := by decide +kernel
theorem dX12_readLawLine_4 : decode cX12_readLawLine 4 = .ok (.iload_n 1, 1) := by decide +kernel
theorem dX12_readLawLine_5 : decode cX12_readLawLine 5 = .ok (.imul, 1) := by decide +kernel
theorem dX12_readLawLine_6 : decode cX12_readLawLine 6 = .ok (.iadd, 1) := by decide +kernel
theorem dX12_readLawLine_7 : decode cX12_readLawLine 7 = .ok (.istore_n 2, 1) := by decide +kernel
theorem dX12_readLawLine_8 : decode cX12_readLawLine 8 = .ok (.aload_n 0, 1) := by decide +kernel
theorem dX12_readLawLine_9 : decode cX12_readLawLine 9 = .ok (.getfield 13, 3) := by decide +kernel
theorem dX12_readLawLine_12 : decode cX12_readLawLine 12 = .ok (.iload_n 2, 1) := by decide +kernel
theorem dX12_readLawLine_13 : decode cX12_readLawLine 13 = .ok (.aload_n 0, 1) := by decide +kernel
theorem dX12_readLawLine_14 : decode cX12_readLawLine 14 = .ok (.ldc 244, 2) := by decide +kernel
theorem dX12_readLawLine_16 : decode cX12_readLawLine 16 = .ok (.invokevirtual 119, 3) := by decide +kernel
theorem dX12_readLawLine_19 : decode cX12_readLawLine 19 = .ok (.ifCond .eq 7, 3) := by decide +kernel
theorem dX12_readLawLine_22 : decode cX12_readLawLine 22 = .ok (.iconst 0, 1) := by decide +kernel
theorem dX12_readLawLine_23 : decode cX12_readLawLine 23 = .ok (.goto 30, 3) := by decide +kernel
theorem dX12_readLawLine_26 : decode cX12_readLawLine 26 = .ok (.aload_n 0, 1) := by decide +kernel
theorem dX12_readLawLine_27 : decode cX12_readLawLine 27 = .ok (.ldc 246, 2) := by decide +kernel
theorem dX12_readLawLine_29 : decode cX12_readLawLine 29 = .ok (.invokevirtual 119, 3) := by decide +kernel
theorem dX12_readLawLine_32 : decode cX12_readLawLine 32 = .ok (.ifCond .eq 7, 3) := by decide +kernel
theorem dX12_readLawLine_35 : decode cX12_readLawLine 35 = .ok (.iconst 1, 1) := by decide +kernel
theorem dX12_readLawLine_36 : decode cX12_readLawLine 36 = .ok (.goto 17, 3) := by decide +kernel
theorem dX12_readLawLine_39 : decode cX12_readLawLine 39 = .ok (.aload_n 0, 1) := by decide +kernel
theorem dX12_readLawLine_40 : decode cX12_readLawLine 40 = .ok (.ldc 248, 2) := by decide +kernel
theorem dX12_readLawLine_42 : decode cX12_readLawLine 42 = .ok (.invokevirtual 119, 3) := by decide +kernel
theorem dX12_readLawLine_45 : decode cX12_readLawLine 45 = .ok (.ifCond .eq 7, 3) := by decide +kernel
theorem dX12_readLawLine_48 : decode cX12_readLawLine 48 = .ok (.iconst 2, 1) := by decide +kernel
theorem dX12_readLawLine_49 : decode cX12_readLawLine 49 = .ok (.goto 4, 3) := by decide +kernel
theorem dX12_readLawLine_52 : decode cX12_readLawLine 52 = .ok (.iconst (-1), 1) := by decide +kernel
theorem dX12_readLawLine_53 : decode cX12_readLawLine 53 = .ok (.iastore, 1) := by decide +kernel
theorem dX12_readLawLine_54 : decode cX12_readLawLine 54 = .ok (.aload_n 0, 1) := by decide +kernel
theorem dX12_readLawLine_55 : decode cX12_readLawLine 55 = .ok (.getfield 13, 3) := by decide +kernel
theorem dX12_readLawLine_58 : decode cX12_readLawLine 58 = .ok (.iload_n 2, 1) := by decide +kernel
theorem dX12_readLawLine_59 : decode cX12_readLawLine 59 = .ok (.iaload, 1) := by decide +kernel
theorem dX12_readLawLine_60 : decode cX12_readLawLine 60 = .ok (.ifCond .ge 5, 3) := by decide +kernel
theorem dX12_readLawLine_63 : decode cX12_readLawLine 63 = .ok (.iconst 0, 1) := by decide +kernel
theorem dX12_readLawLine_64 : decode cX12_readLawLine 64 = .ok (.ireturn, 1) := by decide +kernel
theorem dX12_readLawLine_65 : decode cX12_readLawLine 65 = .ok (.aload_n 0, 1) := by decide +kernel
theorem dX12_readLawLine_66 : decode cX12_readLawLine 66 = .ok (.getfield 13, 3) := by decide +kernel
theorem dX12_readLawLine_69 : decode cX12_readLawLine 69 = .ok (.iload_n 2, 1) := by decide +kernel
theorem dX12_readLawLine_70 : decode cX12_readLawLine 70 = .ok (.iconst 1, 1) := by decide +kernel
theorem dX12_readLawLine_71 : decode cX12_readLawLine 71 = .ok (.iadd, 1) := by decide +kernel
theorem dX12_readLawLine_72 : decode cX12_readLawLine 72 = .ok (.aload_n 0, 1) := by decide +kernel
theorem dX12_readLawLine_73 : decode cX12_readLawLine 73 = .ok (.iconst 0, 1) := by decide +kernel
theorem dX12_readLawLine_74 : decode cX12_readLawLine 74 = .ok (.bipush 100, 2) := by decide +kernel
theorem dX12_readLawLine_76 : decode cX12_readLawLine 76 = .ok (.invokevirtual 123, 3) := by decide +kernel
theorem dX12_readLawLine_79 : decode cX12_readLawLine 79 = .ok (.iastore, 1) := by decide +kernel
theorem dX12_readLawLine_80 : decode cX12_readLawLine 80 = .ok (.aload_n 0, 1) := by decide +kernel
theorem dX12_readLawLine_81 : decode cX12_readLawLine 81 = .ok (.getfield 13, 3) := by decide +kernel
theorem dX12_readLawLine_84 : decode cX12_readLawLine 84 = .ok (.iload_n 2, 1) := by decide +kernel
theorem dX12_readLawLine_85 : decode cX12_readLawLine 85 = .ok (.iconst 1, 1) := by decide +kernel
theorem dX12_readLawLine_86 : decode cX12_readLawLine 86 = .ok (.iadd, 1) := by decide +kernel
theorem dX12_readLawLine_87 : decode cX12_readLawLine 87 = .ok (.iaload, 1) := by decide +kernel
theorem dX12_readLawLine_88 : decode cX12_readLawLine 88 = .ok (.ifCond .ge 5, 3) := by decide +kernel
theorem dX12_readLawLine_91 : decode cX12_readLawLine 91 = .ok (.iconst 0, 1) := by decide +kernel
theorem dX12_readLawLine_92 : decode cX12_readLawLine 92 = .ok (.ireturn, 1) := by decide +kernel
theorem dX12_readLawLine_93 : decode cX12_readLawLine 93 = .ok (.aload_n 0, 1) := by decide +kernel
theorem dX12_readLawLine_94 : decode cX12_readLawLine 94 = .ok (.getfield 13, 3) := by decide +kernel
theorem dX12_readLawLine_97 : decode cX12_readLawLine 97 = .ok (.iload_n 2, 1) := by decide +kernel
theorem dX12_readLawLine_98 : decode cX12_readLawLine 98 = .ok (.iconst 2, 1) := by decide +kernel
theorem dX12_readLawLine_99 : decode cX12_readLawLine 99 = .ok (.iadd, 1) := by decide +kernel
theorem dX12_readLawLine_100 : decode cX12_readLawLine 100 = .ok (.aload_n 0, 1) := by decide +kernel
theorem dX12_readLawLine_101 : decode cX12_readLawLine 101 = .ok (.getfield 201, 3) := by decide +kernel
theorem dX12_readLawLine_104 : decode cX12_readLawLine 104 = .ok (.iastore, 1) := by decide +kernel
theorem dX12_readLawLine_105 : decode cX12_readLawLine 105 = .ok (.aload_n 0, 1) := by decide +kernel
theorem dX12_readLawLine_106 : decode cX12_readLawLine 106 = .ok (.iconst 0, 1) := by decide +kernel
theorem dX12_readLawLine_107 : decode cX12_readLawLine 107 = .ok (.putfield 221, 3) := by decide +kernel
theorem dX12_readLawLine_110 : decode cX12_readLawLine 110 = .ok (.aload_n 0, 1) := by decide +kernel
theorem dX12_readLawLine_111 : decode cX12_readLawLine 111 = .ok (.ldc 250, 2) := by decide +kernel
theorem dX12_readLawLine_113 : decode cX12_readLawLine 113 = .ok (.invokevirtual 136, 3) := by decide +kernel
theorem dX12_readLawLine_116 : decode cX12_readLawLine 116 = .ok (.ifCond .eq 12, 3) := by decide +kernel
theorem dX12_readLawLine_119 : decode cX12_readLawLine 119 = .ok (.aload_n 0, 1) := by decide +kernel
theorem dX12_readLawLine_120 : decode cX12_readLawLine 120 = .ok (.invokevirtual 223, 3) := by decide +kernel
theorem dX12_readLawLine_123 : decode cX12_readLawLine 123 = .ok (.ifCond .ne 5, 3) := by decide +kernel
theorem dX12_readLawLine_126 : decode cX12_readLawLine 126 = .ok (.iconst 0, 1) := by decide +kernel
theorem dX12_readLawLine_127 : decode cX12_readLawLine 127 = .ok (.ireturn, 1) := by decide +kernel
theorem dX12_readLawLine_128 : decode cX12_readLawLine 128 = .ok (.aload_n 0, 1) := by decide +kernel
theorem dX12_readLawLine_129 : decode cX12_readLawLine 129 = .ok (.getfield 13, 3) := by decide +kernel
theorem dX12_readLawLine_132 : decode cX12_readLawLine 132 = .ok (.iload_n 2, 1) := by decide +kernel
theorem dX12_readLawLine_133 : decode cX12_readLawLine 133 = .ok (.iconst 3, 1) := by decide +kernel
theorem dX12_readLawLine_134 : decode cX12_readLawLine 134 = .ok (.iadd, 1) := by decide +kernel
theorem dX12_readLawLine_135 : decode cX12_readLawLine 135 = .ok (.aload_n 0, 1) := by decide +kernel
theorem dX12_readLawLine_136 : decode cX12_readLawLine 136 = .ok (.getfield 201, 3) := by decide +kernel
theorem dX12_readLawLine_139 : decode cX12_readLawLine 139 = .ok (.iastore, 1) := by decide +kernel
theorem dX12_readLawLine_140 : decode cX12_readLawLine 140 = .ok (.iconst 1, 1) := by decide +kernel
theorem dX12_readLawLine_141 : decode cX12_readLawLine 141 = .ok (.ireturn, 1) := by decide +kernel
theorem dX12_readLine_0 : decode cX12_readLine 0 = .ok (.aload_n 0, 1) := by decide +kernel
theorem dX12_readLine_1 : decode cX12_readLine 1 = .ok (.invokevirtual 116, 3) := by decide +kernel
theorem dX12_readLine_4 : decode cX12_readLine 4 = .ok (.iload_n 2, 1) := by decide +kernel
theorem dX12_readLine_5 : decode cX12_readLine 5 = .ok (.iload_n 1, 1) := by decide +kernel
theorem dX12_readLine_6 : decode cX12_readLine 6 = .ok (.ifCond .eq 8, 3) := by decide +kernel
theorem dX12_readLine_9 : decode cX12_readLine 9 = .ok (.bipush 14, 2) := by decide +kernel
theorem dX12_readLine_11 : decode cX12_readLine 11 = .ok (.goto 5, 3) := by decide +kernel
theorem dX12_readLine_14 : decode cX12_readLine 14 = .ok (.bipush 12, 2) := by decide +kernel
theorem dX12_readLine_16 : decode cX12_readLine 16 = .ok (.if_icmp .ge 29, 3) := by decide +kernel
theorem dX12_readLine_19 : decode cX12_readLine 19 = .ok (.iload_n 1, 1) := by decide +kernel
theorem dX12_readLine_20 : decode cX12_readLine 20 = .ok (.ifCond .eq 13, 3) := by decide +kernel
theorem dX12_readLine_23 : decode cX12_readLine 23 = .ok (.aload_n 0, 1) := by decide +kernel
theorem dX12_readLine_24 : decode cX12_readLine 24 = .ok (.invokevirtual 252, 3) := by decide +kernel
theorem dX12_readLine_27 : decode cX12_readLine 27 = .ok (.ifCond .eq 18, 3) := by decide +kernel
theorem dX12_readLine_30 : decode cX12_readLine 30 = .ok (.goto 11, 3) := by decide +kernel
theorem dX12_readLine_33 : decode cX12_readLine 33 = .ok (.aload_n 0, 1) := by decide +kernel
theorem dX12_readLine_34 : decode cX12_readLine 34 = .ok (.iload_n 2, 1) := by decide +kernel
theorem dX12_readLine_35 : decode cX12_readLine 35 = .ok (.invokevirtual 255, 3) := by decide +kernel
theorem dX12_readLine_38 : decode cX12_readLine 38 = .ok (.ifCond .eq 7, 3) := by decide +kernel
theorem dX12_readLine_41 : decode cX12_readLine 41 = .ok (.iconst 1, 1) := by decide +kernel
theorem dX12_readLine_42 : decode cX12_readLine 42 = .ok (.goto 4, 3) := by decide +kernel
theorem dX12_readLine_45 : decode cX12_readLine 45 = .ok (.iconst 0, 1) := by decide +kernel
theorem dX12_readLine_46 : decode cX12_readLine 46 = .ok (.ireturn, 1) := by decide +kernel
theorem dX12_readAll_0 : decode cX12_readAll 0 = .ok (.aload_n 0, 1) := by decide +kernel
theorem dX12_readAll_1 : decode cX12_readAll 1 = .ok (.invokevirtual 258, 3) := by decide +kernel
theorem dX12_readAll_4 : decode cX12_readAll 4 = .ok (.aload_n 0, 1) := by decide +kernel
theorem dX12_readAll_5 : decode cX12_readAll 5 = .ok (.iconst 0, 1) := by decide +kernel
theorem dX12_readAll_6 : decode cX12_readAll 6 = .ok (.putfield 201, 3) := by decide +kernel
theorem dX12_readAll_9 : decode cX12_readAll 9 = .ok (.aload_n 0, 1) := by decide +kernel
theorem dX12_readAll_10 : decode cX12_readAll 10 = .ok (.invokevirtual 104, 3) := by decide +kernel
theorem dX12_readAll_13 : decode cX12_readAll 13 = .ok (.aload_n 0, 1) := by decide +kernel
theorem dX12_readAll_14 : decode cX12_readAll 14 = .ok (.getfield 92, 3) := by decide +kernel
theorem dX12_readAll_17 : decode cX12_readAll 17 = .ok (.aload_n 0, 1) := by decide +kernel
theorem dX12_readAll_18 : decode cX12_readAll 18 = .ok (.getfield 95, 3) := by decide +kernel
theorem dX12_readAll_21 : decode cX12_readAll 21 = .ok (.if_icmp .ne 5, 3) := by decide +kernel
theorem dX12_readAll_24 : decode cX12_readAll 24 = .ok (.iconst 0, 1) := by decide +kernel
theorem dX12_readAll_25 : decode cX12_readAll 25 = .ok (.ireturn, 1) := by decide +kernel
theorem dX12_readAll_26 : decode cX12_readAll 26 = .ok (.iconst 0, 1) := by decide +kernel
theorem dX12_readAll_27 : decode cX12_readAll 27 = .ok (.istore_n 2, 1) := by decide +kernel
theorem dX12_readAll_28 : decode cX12_readAll 28 = .ok (.aload_n 0, 1) := by decide +kernel
theorem dX12_readAll_29 : decode cX12_readAll 29 = .ok (.iload_n 1, 1) := by decide +kernel
theorem dX12_readAll_30 : decode cX12_readAll 30 = .ok (.iload_n 2, 1) := by decide +kernel
theorem dX12_readAll_31 : decode cX12_readAll 31 = .ok (.invokevirtual 261, 3) := by decide +kernel
theorem dX12_readAll_34 : decode cX12_readAll 34 = .ok (.ifCond .ne 5, 3) := by decide +kernel
theorem dX12_readAll_37 : decode cX12_readAll 37 = .ok (.iconst (-1), 1) := by decide +kernel
theorem dX12_readAll_38 : decode cX12_readAll 38 = .ok (.ireturn, 1) := by decide +kernel
theorem dX12_readAll_39 : decode cX12_readAll 39 = .ok (.aload_n 0, 1) := by decide +kernel
theorem dX12_readAll_40 : decode cX12_readAll 40 = .ok (.invokevirtual 104, 3) := by decide +kernel
theorem dX12_readAll_43 : decode cX12_readAll 43 = .ok (.aload_n 0, 1) := by decide +kernel
theorem dX12_readAll_44 : decode cX12_readAll 44 = .ok (.getfield 92, 3) := by decide +kernel
theorem dX12_readAll_47 : decode cX12_readAll 47 = .ok (.aload_n 0, 1) := by decide +kernel
theorem dX12_readAll_48 : decode cX12_readAll 48 = .ok (.getfield 95, 3) := by decide +kernel
theorem dX12_readAll_51 : decode cX12_readAll 51 = .ok (.if_icmp .ne 7, 3) := by decide +kernel
theorem dX12_readAll_54 : decode cX12_readAll 54 = .ok (.iload_n 2, 1) := by decide +kernel
theorem dX12_readAll_55 : decode cX12_readAll 55 = .ok (.iconst 1, 1) := by decide +kernel
theorem dX12_readAll_56 : decode cX12_readAll 56 = .ok (.iadd, 1) := by decide +kernel
theorem dX12_readAll_57 : decode cX12_readAll 57 = .ok (.ireturn, 1) := by decide +kernel
theorem dX12_readAll_58 : decode cX12_readAll 58 = .ok (.aload_n 0, 1) := by decide +kernel
theorem dX12_readAll_59 : decode cX12_readAll 59 = .ok (.bipush 59, 2) := by decide +kernel
theorem dX12_readAll_61 : decode cX12_readAll 61 = .ok (.bipush 59, 2) := by decide +kernel
theorem dX12_readAll_63 : decode cX12_readAll 63 = .ok (.invokevirtual 98, 3) := by decide +kernel
theorem dX12_readAll_66 : decode cX12_readAll 66 = .ok (.ifCond .ne 5, 3) := by decide +kernel
theorem dX12_readAll_69 : decode cX12_readAll 69 = .ok (.iconst (-1), 1) := by decide +kernel
theorem dX12_readAll_70 : decode cX12_readAll 70 = .ok (.ireturn, 1) := by decide +kernel
theorem dX12_readAll_71 : decode cX12_readAll 71 = .ok (.aload_n 0, 1) := by decide +kernel
theorem dX12_readAll_72 : decode cX12_readAll 72 = .ok (.dup, 1) := by decide +kernel
theorem dX12_readAll_73 : decode cX12_readAll 73 = .ok (.getfield 92, 3) := by decide +kernel
theorem dX12_readAll_76 : decode cX12_readAll 76 = .ok (.iconst 1, 1) := by decide +kernel
theorem dX12_readAll_77 : decode cX12_readAll 77 = .ok (.iadd, 1) := by decide +kernel
theorem dX12_readAll_78 : decode cX12_readAll 78 = .ok (.putfield 92, 3) := by decide +kernel
theorem dX12_readAll_81 : decode cX12_readAll 81 = .ok (.iinc 2 1, 3) := by decide +kernel
theorem dX12_readAll_84 : decode cX12_readAll 84 = .ok (.goto (-56), 3) := by decide +kernel
theorem dX12_town_0 : decode cX12_town 0 = .ok (.iconst 0, 1) := by decide +kernel
theorem dX12_town_1 : decode cX12_town 1 = .ok (.istore_n 1, 1) := by decide +kernel
theorem dX12_town_2 : decode cX12_town 2 = .ok (.iload_n 1, 1) := by decide +kernel
theorem dX12_town_3 : decode cX12_town 3 = .ok (.sipush 1213, 3) := by decide +kernel
theorem dX12_town_6 : decode cX12_town 6 = .ok (.if_icmp .ge 21, 3) := by decide +kernel
theorem dX12_town_9 : decode cX12_town 9 = .ok (.aload_n 0, 1) := by decide +kernel
theorem dX12_town_10 : decode cX12_town 10 = .ok (.getfield 20, 3) := by decide +kernel
theorem dX12_town_13 : decode cX12_town 13 = .ok (.iload_n 1, 1) := by decide +kernel
theorem dX12_town_14 : decode cX12_town 14 = .ok (.aload_n 0, 1) := by decide +kernel
theorem dX12_town_15 : decode cX12_town 15 = .ok (.getfield 13, 3) := by decide +kernel
theorem dX12_town_18 : decode cX12_town 18 = .ok (.iload_n 1, 1) := by decide +kernel
theorem dX12_town_19 : decode cX12_town 19 = .ok (.iaload, 1) := by decide +kernel
theorem dX12_town_20 : decode cX12_town 20 = .ok (.iastore, 1) := by decide +kernel
theorem dX12_town_21 : decode cX12_town 21 = .ok (.iinc 1 1, 3) := by decide +kernel
theorem dX12_town_24 : decode cX12_town 24 = .ok (.goto (-22), 3) := by decide +kernel
theorem dX12_town_27 : decode cX12_town 27 = .ok (.aload_n 0, 1) := by decide +kernel
theorem dX12_town_28 : decode cX12_town 28 = .ok (.iconst 1, 1) := by decide +kernel
theorem dX12_town_29 : decode cX12_town 29 = .ok (.invokevirtual 265, 3) := by decide +kernel
theorem dX12_town_32 : decode cX12_town 32 = .ok (.istore_n 1, 1) := by decide +kernel
theorem dX12_town_33 : decode cX12_town 33 = .ok (.aload_n 0, 1) := by decide +kernel
theorem dX12_town_34 : decode cX12_town 34 = .ok (.iload_n 1, 1) := by decide +kernel
theorem dX12_town_35 : decode cX12_town 35 = .ok (.ifCond .ge 10, 3) := by decide +kernel
theorem dX12_town_38 : decode cX12_town 38 = .ok (.aload_n 0, 1) := by decide +kernel
theorem dX12_town_39 : decode cX12_town 39 = .ok (.getfield 101, 3) := by decide +kernel
theorem dX12_town_42 : decode cX12_town 42 = .ok (.goto 4, 3) := by decide +kernel
theorem dX12_town_45 : decode cX12_town 45 = .ok (.iconst (-1), 1) := by decide +kernel
theorem dX12_town_46 : decode cX12_town 46 = .ok (.putfield 33, 3) := by decide +kernel
theorem dX12_town_49 : decode cX12_town 49 = .ok (.aload_n 0, 1) := by decide +kernel
theorem dX12_town_50 : decode cX12_town 50 = .ok (.iload_n 1, 1) := by decide +kernel
theorem dX12_town_51 : decode cX12_town 51 = .ok (.ifCond .ge 7, 3) := by decide +kernel
theorem dX12_town_54 : decode cX12_town 54 = .ok (.iconst 1, 1) := by decide +kernel
theorem dX12_town_55 : decode cX12_town 55 = .ok (.goto 4, 3) := by decide +kernel
theorem dX12_town_58 : decode cX12_town 58 = .ok (.iconst 0, 1) := by decide +kernel
theorem dX12_town_59 : decode cX12_town 59 = .ok (.iconst 1, 1) := by decide +kernel
theorem dX12_town_60 : decode cX12_town 60 = .ok (.invokevirtual 269, 3) := by decide +kernel
theorem dX12_town_63 : decode cX12_town 63 = .ok (.ifCond .ne 27, 3) := by decide +kernel
theorem dX12_town_66 : decode cX12_town 66 = .ok (.aload_n 0, 1) := by decide +kernel
theorem dX12_town_67 : decode cX12_town 67 = .ok (.aload_n 0, 1) := by decide +kernel
theorem dX12_town_68 : decode cX12_town 68 = .ok (.getfield 13, 3) := by decide +kernel
theorem dX12_town_71 : decode cX12_town 71 = .ok (.iconst 2, 1) := by decide +kernel
theorem dX12_town_72 : decode cX12_town 72 = .ok (.iaload, 1) := by decide +kernel
theorem dX12_town_73 : decode cX12_town 73 = .ok (.bipush 12, 2) := by decide +kernel
theorem dX12_town_75 : decode cX12_town 75 = .ok (.if_icmp .ne 7, 3) := by decide +kernel
theorem dX12_town_78 : decode cX12_town 78 = .ok (.iconst 1, 1) := by decide +kernel
theorem dX12_town_79 : decode cX12_town 79 = .ok (.goto 4, 3) := by decide +kernel
theorem dX12_town_82 : decode cX12_town 82 = .ok (.iconst 0, 1) := by decide +kernel
theorem dX12_town_83 : decode cX12_town 83 = .ok (.iconst 2, 1) := by decide +kernel
theorem dX12_town_84 : decode cX12_town 84 = .ok (.invokevirtual 269, 3) := by decide +kernel
theorem dX12_town_87 : decode cX12_town 87 = .ok (.ifCond .eq 32, 3) := by decide +kernel
theorem dX12_town_90 : decode cX12_town 90 = .ok (.iconst 0, 1) := by decide +kernel
theorem dX12_town_91 : decode cX12_town 91 = .ok (.istore_n 2, 1) := by decide +kernel
theorem dX12_town_92 : decode cX12_town 92 = .ok (.iload_n 2, 1) := by decide +kernel
theorem dX12_town_93 : decode cX12_town 93 = .ok (.sipush 1213, 3) := by decide +kernel
theorem dX12_town_96 : decode cX12_town 96 = .ok (.if_icmp .ge 21, 3) := by decide +kernel
theorem dX12_town_99 : decode cX12_town 99 = .ok (.aload_n 0, 1) := by decide +kernel
theorem dX12_town_100 : decode cX12_town 100 = .ok (.getfield 13, 3) := by decide +kernel
theorem dX12_town_103 : decode cX12_town 103 = .ok (.iload_n 2, 1) := by decide +kernel
theorem dX12_town_104 : decode cX12_town 104 = .ok (.aload_n 0, 1) := by decide +kernel
theorem dX12_town_105 : decode cX12_town 105 = .ok (.getfield 20, 3) := by decide +kernel
theorem dX12_town_108 : decode cX12_town 108 = .ok (.iload_n 2, 1) := by decide +kernel
theorem dX12_town_109 : decode cX12_town 109 = .ok (.iaload, 1) := by decide +kernel
theorem dX12_town_110 : decode cX12_town 110 = .ok (.iastore, 1) := by decide +kernel
theorem dX12_town_111 : decode cX12_town 111 = .ok (.iinc 2 1, 3) := by decide +kernel
theorem dX12_town_114 : decode cX12_town 114 = .ok (.goto (-22), 3) := by decide +kernel
theorem dX12_town_117 : decode cX12_town 117 = .ok (.iconst 0, 1) := by decide +kernel
theorem dX12_town_118 : decode cX12_town 118 = .ok (.ireturn, 1) := by decide +kernel
theorem dX12_town_119 : decode cX12_town 119 = .ok (.aload_n 0, 1) := by decide +kernel
theorem dX12_town_120 : decode cX12_town 120 = .ok (.getfield 13, 3) := by decide +kernel
theorem dX12_town_123 : decode cX12_town 123 = .ok (.iconst 2, 1) := by decide +kernel
theorem dX12_town_124 : decode cX12_town 124 = .ok (.dup2, 1) := by decide +kernel
theorem dX12_town_125 : decode cX12_town 125 = .ok (.iaload, 1) := by decide +kernel
theorem dX12_town_126 : decode cX12_town 126 = .ok (.iconst 1, 1) := by decide +kernel
theorem dX12_town_127 : decode cX12_town 127 = .ok (.iadd, 1) := by decide +kernel
theorem dX12_town_128 : decode cX12_town 128 = .ok (.iastore, 1) := by decide +kernel
theorem dX12_town_129 : decode cX12_town 129 = .ok (.aload_n 0, 1) := by decide +kernel
theorem dX12_town_130 : decode cX12_town 130 = .ok (.iconst 0, 1) := by decide +kernel
theorem dX12_town_131 : decode cX12_town 131 = .ok (.putfield 56, 3) := by decide +kernel
theorem dX12_town_134 : decode cX12_town 134 = .ok (.aload_n 0, 1) := by decide +kernel
theorem dX12_town_135 : decode cX12_town 135 = .ok (.getfield 13, 3) := by decide +kernel
theorem dX12_town_138 : decode cX12_town 138 = .ok (.iconst 2, 1) := by decide +kernel
theorem dX12_town_139 : decode cX12_town 139 = .ok (.iaload, 1) := by decide +kernel
theorem dX12_town_140 : decode cX12_town 140 = .ok (.ireturn, 1) := by decide +kernel
theorem dX12_law_0 : decode cX12_law 0 = .ok (.aload_n 0, 1) := by decide +kernel
theorem dX12_law_1 : decode cX12_law 1 = .ok (.iconst 0, 1) := by decide +kernel
theorem dX12_law_2 : decode cX12_law 2 = .ok (.invokevirtual 265, 3) := by decide +kernel
theorem dX12_law_5 : decode cX12_law 5 = .ok (.istore_n 1, 1) := by decide +kernel
theorem dX12_law_6 : decode cX12_law 6 = .ok (.aload_n 0, 1) := by decide +kernel
theorem dX12_law_7 : decode cX12_law 7 = .ok (.iload_n 1, 1) := by decide +kernel
theorem dX12_law_8 : decode cX12_law 8 = .ok (.ifCond .ge 10, 3) := by decide +kernel
theorem dX12_law_11 : decode cX12_law 11 = .ok (.aload_n 0, 1) := by decide +kernel
theorem dX12_law_12 : decode cX12_law 12 = .ok (.getfield 101, 3) := by decide +kernel
theorem dX12_law_15 : decode cX12_law 15 = .ok (.goto 4, 3) := by decide +kernel
theorem dX12_law_18 : decode cX12_law 18 = .ok (.iconst (-1), 1) := by decide +kernel
theorem dX12_law_19 : decode cX12_law 19 = .ok (.putfield 33, 3) := by decide +kernel
theorem dX12_law_22 : decode cX12_law 22 = .ok (.aload_n 0, 1) := by decide +kernel
theorem dX12_law_23 : decode cX12_law 23 = .ok (.iload_n 1, 1) := by decide +kernel
theorem dX12_law_24 : decode cX12_law 24 = .ok (.ifCond .ge 7, 3) := by decide +kernel
theorem dX12_law_27 : decode cX12_law 27 = .ok (.iconst 1, 1) := by decide +kernel
theorem dX12_law_28 : decode cX12_law 28 = .ok (.goto 4, 3) := by decide +kernel
theorem dX12_law_31 : decode cX12_law 31 = .ok (.iconst 0, 1) := by decide +kernel
theorem dX12_law_32 : decode cX12_law 32 = .ok (.iconst 1, 1) := by decide +kernel
theorem dX12_law_33 : decode cX12_law 33 = .ok (.invokevirtual 269, 3) := by decide +kernel
theorem dX12_law_36 : decode cX12_law 36 = .ok (.ifCond .eq 5, 3) := by decide +kernel
theorem dX12_law_39 : decode cX12_law 39 = .ok (.iconst 0, 1) := by decide +kernel
theorem dX12_law_40 : decode cX12_law 40 = .ok (.ireturn, 1) := by decide +kernel
theorem dX12_law_41 : decode cX12_law 41 = .ok (.aload_n 0, 1) := by decide +kernel
theorem dX12_law_42 : decode cX12_law 42 = .ok (.getfield 13, 3) := by decide +kernel
theorem dX12_law_45 : decode cX12_law 45 = .ok (.sipush 1213, 3) := by decide +kernel
theorem dX12_law_48 : decode cX12_law 48 = .ok (.iload_n 1, 1) := by decide +kernel
theorem dX12_law_49 : decode cX12_law 49 = .ok (.iastore, 1) := by decide +kernel
theorem dX12_law_50 : decode cX12_law 50 = .ok (.iconst 0, 1) := by decide +kernel
theorem dX12_law_51 : decode cX12_law 51 = .ok (.istore_n 2, 1) := by decide +kernel
theorem dX12_law_52 : decode cX12_law 52 = .ok (.iload_n 2, 1) := by decide +kernel
theorem dX12_law_53 : decode cX12_law 53 = .ok (.sipush 849, 3) := by decide +kernel
theorem dX12_law_56 : decode cX12_law 56 = .ok (.if_icmp .ge 29, 3) := by decide +kernel
theorem dX12_law_59 : decode cX12_law 59 = .ok (.aload_n 0, 1) := by decide +kernel
theorem dX12_law_60 : decode cX12_law 60 = .ok (.getfield 13, 3) := by decide +kernel
theorem dX12_law_63 : decode cX12_law 63 = .ok (.sipush 364, 3) := by decide +kernel
theorem dX12_law_66 : decode cX12_law 66 = .ok (.iload_n 2, 1) := by decide +kernel
theorem dX12_law_67 : decode cX12_law 67 = .ok (.iadd, 1) := by decide +kernel
theorem dX12_law_68 : decode cX12_law 68 = .ok (.aload_n 0, 1) := by decide +kernel
theorem dX12_law_69 : decode cX12_law 69 = .ok (.getfield 13, 3) := by decide +kernel
theorem dX12_law_72 : decode cX12_law 72 = .ok (.sipush 1213, 3) := by decide +kernel
theorem dX12_law_75 : decode cX12_law 75 = .ok (.iload_n 2, 1) := by decide +kernel
theorem dX12_law_76 : decode cX12_law 76 = .ok (.iadd, 1) := by decide +kernel
theorem dX12_law_77 : decode cX12_law 77 = .ok (.iaload, 1) := by decide +kernel
theorem dX12_law_78 : decode cX12_law 78 = .ok (.iastore, 1) := by decide +kernel
theorem dX12_law_79 : decode cX12_law 79 = .ok (.iinc 2 1, 3) := by decide +kernel
theorem dX12_law_82 : decode cX12_law 82 = .ok (.goto (-30), 3) := by decide +kernel
theorem dX12_law_85 : decode cX12_law 85 = .ok (.aload_n 0, 1) := by decide +kernel
theorem dX12_law_86 : decode cX12_law 86 = .ok (.getfield 13, 3) := by decide +kernel
theorem dX12_law_89 : decode cX12_law 89 = .ok (.iconst 3, 1) := by decide +kernel
theorem dX12_law_90 : decode cX12_law 90 = .ok (.iconst 1, 1) := by decide +kernel
theorem dX12_law_91 : decode cX12_law 91 = .ok (.iastore, 1) := by decide +kernel
theorem dX12_law_92 : decode cX12_law 92 = .ok (.aload_n 0, 1) := by decide +kernel
theorem dX12_law_93 : decode cX12_law 93 = .ok (.iconst 0, 1) := by decide +kernel
theorem dX12_law_94 : decode cX12_law 94 = .ok (.putfield 56, 3) := by decide +kernel
theorem dX12_law_97 : decode cX12_law 97 = .ok (.iload_n 1, 1) := by decide +kernel
theorem dX12_law_98 : decode cX12_law 98 = .ok (.ireturn, 1) := by decide +kernel
theorem dX12_isMutual_0 : decode cX12_isMutual 0 = .ok (.iconst 0, 1) := by decide +kernel
theorem dX12_isMutual_1 : decode cX12_isMutual 1 = .ok (.istore_n 2, 1) := by decide +kernel
theorem dX12_isMutual_2 : decode cX12_isMutual 2 = .ok (.iconst 0, 1) := by decide +kernel
theorem dX12_isMutual_3 : decode cX12_isMutual 3 = .ok (.istore_n 3, 1) := by decide +kernel
theorem dX12_isMutual_4 : decode cX12_isMutual 4 = .ok (.iload_n 3, 1) := by decide +kernel
theorem dX12_isMutual_5 : decode cX12_isMutual 5 = .ok (.aload_n 0, 1) := by decide +kernel
theorem dX12_isMutual_6 : decode cX12_isMutual 6 = .ok (.invokevirtual 73, 3) := by decide +kernel
theorem dX12_isMutual_9 : decode cX12_isMutual 9 = .ok (.if_icmp .ge 57, 3) := by decide +kernel
theorem dX12_isMutual_12 : decode cX12_isMutual 12 = .ok (.iload_n 2, 1) := by decide +kernel
theorem dX12_isMutual_13 : decode cX12_isMutual 13 = .ok (.ifCond .ne 41, 3) := by decide +kernel
theorem dX12_isMutual_16 : decode cX12_isMutual 16 = .ok (.aload_n 0, 1) := by decide +kernel
theorem dX12_isMutual_17 : decode cX12_isMutual 17 = .ok (.iload_n 3, 1) := by decide +kernel
theorem dX12_isMutual_18 : decode cX12_isMutual 18 = .ok (.invokevirtual 76, 3) := by decide +kernel
theorem dX12_isMutual_21 : decode cX12_isMutual 21 = .ok (.ifCond .ne 37, 3) := by decide +kernel
theorem dX12_isMutual_24 : decode cX12_isMutual 24 = .ok (.aload_n 0, 1) := by decide +kernel
theorem dX12_isMutual_25 : decode cX12_isMutual 25 = .ok (.iload_n 3, 1) := by decide +kernel
theorem dX12_isMutual_26 : decode cX12_isMutual 26 = .ok (.iconst 0, 1) := by decide +kernel
theorem dX12_isMutual_27 : decode cX12_isMutual 27 = .ok (.invokevirtual 70, 3) := by decide +kernel
theorem dX12_isMutual_30 : decode cX12_isMutual 30 = .ok (.aload_n 0, 1) := by decide +kernel
theorem dX12_isMutual_31 : decode cX12_isMutual 31 = .ok (.iload_n 1, 1) := by decide +kernel
theorem dX12_isMutual_32 : decode cX12_isMutual 32 = .ok (.iconst 1, 1) := by decide +kernel
theorem dX12_isMutual_33 : decode cX12_isMutual 33 = .ok (.invokevirtual 70, 3) := by decide +kernel
theorem dX12_isMutual_36 : decode cX12_isMutual 36 = .ok (.if_icmp .ne 22, 3) := by decide +kernel
theorem dX12_isMutual_39 : decode cX12_isMutual 39 = .ok (.aload_n 0, 1) := by decide +kernel
theorem dX12_isMutual_40 : decode cX12_isMutual 40 = .ok (.iload_n 3, 1) := by decide +kernel
theorem dX12_isMutual_41 : decode cX12_isMutual 41 = .ok (.iconst 1, 1) := by decide +kernel
theorem dX12_isMutual_42 : decode cX12_isMutual 42 = .ok (.invokevirtual 70, 3) := by decide +kernel
theorem dX12_isMutual_45 : decode cX12_isMutual 45 = .ok (.aload_n 0, 1) := by decide +kernel
theorem dX12_isMutual_46 : decode cX12_isMutual 46 = .ok (.iload_n 1, 1) := by decide +kernel
theorem dX12_isMutual_47 : decode cX12_isMutual 47 = .ok (.iconst 0, 1) := by decide +kernel
theorem dX12_isMutual_48 : decode cX12_isMutual 48 = .ok (.invokevirtual 70, 3) := by decide +kernel
theorem dX12_isMutual_51 : decode cX12_isMutual 51 = .ok (.if_icmp .ne 7, 3) := by decide +kernel
theorem dX12_isMutual_54 : decode cX12_isMutual 54 = .ok (.iconst 1, 1) := by decide +kernel
theorem dX12_isMutual_55 : decode cX12_isMutual 55 = .ok (.goto 4, 3) := by decide +kernel
theorem dX12_isMutual_58 : decode cX12_isMutual 58 = .ok (.iconst 0, 1) := by decide +kernel
theorem dX12_isMutual_59 : decode cX12_isMutual 59 = .ok (.istore_n 2, 1) := by decide +kernel
theorem dX12_isMutual_60 : decode cX12_isMutual 60 = .ok (.iinc 3 1, 3) := by decide +kernel
theorem dX12_isMutual_63 : decode cX12_isMutual 63 = .ok (.goto (-59), 3) := by decide +kernel
theorem dX12_isMutual_66 : decode cX12_isMutual 66 = .ok (.iload_n 2, 1) := by decide +kernel
theorem dX12_isMutual_67 : decode cX12_isMutual 67 = .ok (.ireturn, 1) := by decide +kernel
theorem dX12_factOf_0 : decode cX12_factOf 0 = .ok (.iload_n 1, 1) := by decide +kernel
theorem dX12_factOf_1 : decode cX12_factOf 1 = .ok (.tableswitch 144 0 10 #[59, 61, 68, 75, 87, 94, 101, 106, 115, 122, 136], 59) := by decide +kernel
theorem dX12_factOf_60 : decode cX12_factOf 60 = .ok (.iload_n 3, 1) := by decide +kernel
theorem dX12_factOf_61 : decode cX12_factOf 61 = .ok (.ireturn, 1) := by decide +kernel
theorem dX12_factOf_62 : decode cX12_factOf 62 = .ok (.aload_n 0, 1) := by decide +kernel
theorem dX12_factOf_63 : decode cX12_factOf 63 = .ok (.iload_n 3, 1) := by decide +kernel
theorem dX12_factOf_64 : decode cX12_factOf 64 = .ok (.iconst 3, 1) := by decide +kernel
theorem dX12_factOf_65 : decode cX12_factOf 65 = .ok (.invokevirtual 70, 3) := by decide +kernel
theorem dX12_factOf_68 : decode cX12_factOf 68 = .ok (.ireturn, 1) := by decide +kernel
theorem dX12_factOf_69 : decode cX12_factOf 69 = .ok (.aload_n 0, 1) := by decide +kernel
theorem dX12_factOf_70 : decode cX12_factOf 70 = .ok (.iload_n 3, 1) := by decide +kernel
theorem dX12_factOf_71 : decode cX12_factOf 71 = .ok (.iconst 4, 1) := by decide +kernel
theorem dX12_factOf_72 : decode cX12_factOf 72 = .ok (.invokevirtual 70, 3) := by decide +kernel
theorem dX12_factOf_75 : decode cX12_factOf 75 = .ok (.ireturn, 1) := by decide +kernel
theorem dX12_factOf_76 : decode cX12_factOf 76 = .ok (.aload_n 0, 1) := by decide +kernel
theorem dX12_factOf_77 : decode cX12_factOf 77 = .ok (.aload_n 0, 1) := by decide +kernel
theorem dX12_factOf_78 : decode cX12_factOf 78 = .ok (.iload_n 3, 1) := by decide +kernel
theorem dX12_factOf_79 : decode cX12_factOf 79 = .ok (.iconst 0, 1) := by decide +kernel
theorem dX12_factOf_80 : decode cX12_factOf 80 = .ok (.invokevirtual 70, 3) := by decide +kernel
theorem dX12_factOf_83 : decode cX12_factOf 83 = .ok (.iconst 0, 1) := by decide +kernel
theorem dX12_factOf_84 : decode cX12_factOf 84 = .ok (.invokevirtual 272, 3) := by decide +kernel
theorem dX12_factOf_87 : decode cX12_factOf 87 = .ok (.ireturn, 1) := by decide +kernel
theorem dX12_factOf_88 : decode cX12_factOf 88 = .ok (.aload_n 0, 1) := by decide +kernel
theorem dX12_factOf_89 : decode cX12_factOf 89 = .ok (.iload_n 3, 1) := by decide +kernel
theorem dX12_factOf_90 : decode cX12_factOf 90 = .ok (.iconst 0, 1) := by decide +kernel
theorem dX12_factOf_91 : decode cX12_factOf 91 = .ok (.invokevirtual 275, 3) := by decide +kernel
theorem dX12_factOf_94 : decode cX12_factOf 94 = .ok (.ireturn, 1) := by decide +kernel
theorem dX12_factOf_95 : decode cX12_factOf 95 = .ok (.aload_n 0, 1) := by decide +kernel
theorem dX12_factOf_96 : decode cX12_factOf 96 = .ok (.iload_n 3, 1) := by decide +kernel
theorem dX12_factOf_97 : decode cX12_factOf 97 = .ok (.iconst 1, 1) := by decide +kernel
theorem dX12_factOf_98 : decode cX12_factOf 98 = .ok (.invokevirtual 275, 3) := by decide +kernel
theorem dX12_factOf_101 : decode cX12_factOf 101 = .ok (.ireturn, 1) := by decide +kernel
theorem dX12_factOf_102 : decode cX12_factOf 102 = .ok (.aload_n 0, 1) := by decide +kernel
theorem dX12_factOf_103 : decode cX12_factOf 103 = .ok (.invokevirtual 278, 3) := by decide +kernel
theorem dX12_factOf_106 : decode cX12_factOf 106 = .ok (.ireturn, 1) := by decide +kernel
theorem dX12_factOf_107 : decode cX12_factOf 107 = .ok (.aload_n 0, 1) := by decide +kernel
theorem dX12_factOf_108 : decode cX12_factOf 108 = .ok (.getfield 13, 3) := by decide +kernel
theorem dX12_factOf_111 : decode cX12_factOf 111 = .ok (.iconst 4, 1) := by decide +kernel
theorem dX12_factOf_112 : decode cX12_factOf 112 = .ok (.iaload, 1) := by decide +kernel
theorem dX12_factOf_113 : decode cX12_factOf 113 = .ok (.iconst 4, 1) := by decide +kernel
theorem dX12_factOf_114 : decode cX12_factOf 114 = .ok (.irem, 1) := by decide +kernel
theorem dX12_factOf_115 : decode cX12_factOf 115 = .ok (.ireturn, 1) := by decide +kernel
theorem dX12_factOf_116 : decode cX12_factOf 116 = .ok (.aload_n 0, 1) := by decide +kernel
theorem dX12_factOf_117 : decode cX12_factOf 117 = .ok (.iload_n 3, 1) := by decide +kernel
theorem dX12_factOf_118 : decode cX12_factOf 118 = .ok (.iconst 5, 1) := by decide +kernel
theorem dX12_factOf_119 : decode cX12_factOf 119 = .ok (.invokevirtual 70, 3) := by decide +kernel
theorem dX12_factOf_122 : decode cX12_factOf 122 = .ok (.ireturn, 1) := by decide +kernel
theorem dX12_factOf_123 : decode cX12_factOf 123 = .ok (.aload_n 0, 1) := by decide +kernel
theorem dX12_factOf_124 : decode cX12_factOf 124 = .ok (.iload_n 3, 1) := by decide +kernel
theorem dX12_factOf_125 : decode cX12_factOf 125 = .ok (.invokevirtual 281, 3) := by decide +kernel
theorem dX12_factOf_128 : decode cX12_factOf 128 = .ok (.ifCond .eq 7, 3) := by decide +kernel
theorem dX12_factOf_131 : decode cX12_factOf 131 = .ok (.iconst 1, 1) := by decide +kernel
theorem dX12_factOf_132 : decode cX12_factOf 132 = .ok (.goto 4, 3) := by decide +kernel
theorem dX12_factOf_135 : decode cX12_factOf 135 = .ok (.iconst 0, 1) := by decide +kernel
theorem dX12_factOf_136 : decode cX12_factOf 136 = .ok (.ireturn, 1) := by decide +kernel
theorem dX12_factOf_137 : decode cX12_factOf 137 = .ok (.aload_n 0, 1) := by decide +kernel
theorem dX12_factOf_138 : decode cX12_factOf 138 = .ok (.getfield 13, 3) := by decide +kernel
theorem dX12_factOf_141 : decode cX12_factOf 141 = .ok (.bipush 6, 2) := by decide +kernel
theorem dX12_factOf_143 : decode cX12_factOf 143 = .ok (.iaload, 1) := by decide +kernel
theorem dX12_factOf_144 : decode cX12_factOf 144 = .ok (.ireturn, 1) := by decide +kernel
theorem dX12_factOf_145 : decode cX12_factOf 145 = .ok (.iload_n 2, 1) := by decide +kernel
theorem dX12_factOf_146 : decode cX12_factOf 146 = .ok (.ireturn, 1) := by decide +kernel
theorem dX12_holdsLine_0 : decode cX12_holdsLine 0 = .ok (.iconst 0, 1) := by decide +kernel
theorem dX12_holdsLine_1 : decode cX12_holdsLine 1 = .ok (.istore_n 3, 1) := by decide +kernel
theorem dX12_holdsLine_2 : decode cX12_holdsLine 2 = .ok (.sipush 365, 3) := by decide +kernel
theorem dX12_holdsLine_5 : decode cX12_holdsLine 5 = .ok (.iconst 4, 1) := by decide +kernel
theorem dX12_holdsLine_6 : decode cX12_holdsLine 6 = .ok (.iload_n 1, 1) := by decide +kernel
theorem dX12_holdsLine_7 : decode cX12_holdsLine 7 = .ok (.imul, 1) := by decide +kernel
theorem dX12_holdsLine_8 : decode cX12_holdsLine 8 = .ok (.iadd, 1) := by decide +kernel
theorem dX12_holdsLine_9 : decode cX12_holdsLine 9 = .ok (.istore 4, 2) := by decide +kernel
theorem dX12_holdsLine_11 : decode cX12_holdsLine 11 = .ok (.aload_n 0, 1) := by decide +kernel
theorem dX12_holdsLine_12 : decode cX12_holdsLine 12 = .ok (.getfield 13, 3) := by decide +kernel
theorem dX12_holdsLine_15 : decode cX12_holdsLine 15 = .ok (.iload 4, 2) := by decide +kernel
theorem dX12_holdsLine_17 : decode cX12_holdsLine 17 = .ok (.iconst 2, 1) := by decide +kernel
theorem dX12_holdsLine_18 : decode cX12_holdsLine 18 = .ok (.iadd, 1) := by decide +kernel
theorem dX12_holdsLine_19 : decode cX12_holdsLine 19 = .ok (.iaload, 1) := by decide +kernel
theorem dX12_holdsLine_20 : decode cX12_holdsLine 20 = .ok (.istore 5, 2) := by decide +kernel
theorem dX12_holdsLine_22 : decode cX12_holdsLine 22 = .ok (.iload 5, 2) := by decide +kernel
theorem dX12_holdsLine_24 : decode cX12_holdsLine 24 = .ok (.aload_n 0, 1) := by decide +kernel
theorem dX12_holdsLine_25 : decode cX12_holdsLine 25 = .ok (.getfield 13, 3) := by decide +kernel
theorem dX12_holdsLine_28 : decode cX12_holdsLine 28 = .ok (.iload 4, 2) := by decide +kernel
theorem dX12_holdsLine_30 : decode cX12_holdsLine 30 = .ok (.iconst 3, 1) := by decide +kernel
theorem dX12_holdsLine_31 : decode cX12_holdsLine 31 = .ok (.iadd, 1) := by decide +kernel
theorem dX12_holdsLine_32 : decode cX12_holdsLine 32 = .ok (.iaload, 1) := by decide +kernel
theorem dX12_holdsLine_33 : decode cX12_holdsLine 33 = .ok (.if_icmp .ge 230, 3) := by decide +kernel
theorem dX12_holdsLine_36 : decode cX12_holdsLine 36 = .ok (.aload_n 0, 1) := by decide +kernel
theorem dX12_holdsLine_37 : decode cX12_holdsLine 37 = .ok (.getfield 13, 3) := by decide +kernel
theorem dX12_holdsLine_40 : decode cX12_holdsLine 40 = .ok (.sipush 413, 3) := by decide +kernel
theorem dX12_holdsLine_43 : decode cX12_holdsLine 43 = .ok (.iconst 2, 1) := by decide +kernel
theorem dX12_holdsLine_44 : decode cX12_holdsLine 44 = .ok (.iload 5, 2) := by decide +kernel
theorem dX12_holdsLine_46 : decode cX12_holdsLine 46 = .ok (.imul, 1) := by decide +kernel
theorem dX12_holdsLine_47 : decode cX12_holdsLine 47 = .ok (.iadd, 1) := by decide +kernel
theorem dX12_holdsLine_48 : decode cX12_holdsLine 48 = .ok (.iaload, 1) := by decide +kernel
theorem dX12_holdsLine_49 : decode cX12_holdsLine 49 = .ok (.istore 6, 2) := by decide +kernel
theorem dX12_holdsLine_51 : decode cX12_holdsLine 51 = .ok (.iload 6, 2) := by decide +kernel
theorem dX12_holdsLine_53 : decode cX12_holdsLine 53 = .ok (.bipush 11, 2) := by decide +kernel
theorem dX12_holdsLine_55 : decode cX12_holdsLine 55 = .ok (.if_icmp .gt 37, 3) := by decide +kernel
theorem dX12_holdsLine_58 : decode cX12_holdsLine 58 = .ok (.aload_n 0, 1) := by decide +kernel
theorem dX12_holdsLine_59 : decode cX12_holdsLine 59 = .ok (.getfield 39, 3) := by decide +kernel
theorem dX12_holdsLine_62 : decode cX12_holdsLine 62 = .ok (.iload_n 3, 1) := by decide +kernel
theorem dX12_holdsLine_63 : decode cX12_holdsLine 63 = .ok (.aload_n 0, 1) := by decide +kernel
theorem dX12_holdsLine_64 : decode cX12_holdsLine 64 = .ok (.iload 6, 2) := by decide +kernel
theorem dX12_holdsLine_66 : decode cX12_holdsLine 66 = .ok (.aload_n 0, 1) := by decide +kernel
theorem dX12_holdsLine_67 : decode cX12_holdsLine 67 = .ok (.getfield 13, 3) := by decide +kernel
theorem dX12_holdsLine_70 : decode cX12_holdsLine 70 = .ok (.sipush 413, 3) := by decide +kernel
theorem dX12_holdsLine_73 : decode cX12_holdsLine 73 = .ok (.iconst 2, 1) := by decide +kernel
theorem dX12_holdsLine_74 : decode cX12_holdsLine 74 = .ok (.iload 5, 2) := by decide +kernel
theorem dX12_holdsLine_76 : decode cX12_holdsLine 76 = .ok (.imul, 1) := by decide +kernel
theorem dX12_holdsLine_77 : decode cX12_holdsLine 77 = .ok (.iadd, 1) := by decide +kernel
theorem dX12_holdsLine_78 : decode cX12_holdsLine 78 = .ok (.iconst 1, 1) := by decide +kernel
theorem dX12_holdsLine_79 : decode cX12_holdsLine 79 = .ok (.iadd, 1) := by decide +kernel
theorem dX12_holdsLine_80 : decode cX12_holdsLine 80 = .ok (.iaload, 1) := by decide +kernel
theorem dX12_holdsLine_81 : decode cX12_holdsLine 81 = .ok (.iload_n 2, 1) := by decide +kernel
theorem dX12_holdsLine_82 : decode cX12_holdsLine 82 = .ok (.invokevirtual 284, 3) := by decide +kernel
theorem dX12_holdsLine_85 : decode cX12_holdsLine 85 = .ok (.iastore, 1) := by decide +kernel
theorem dX12_holdsLine_86 : decode cX12_holdsLine 86 = .ok (.iinc 3 1, 3) := by decide +kernel
theorem dX12_holdsLine_89 : decode cX12_holdsLine 89 = .ok (.goto 168, 3) := by decide +kernel
theorem dX12_holdsLine_92 : decode cX12_holdsLine 92 = .ok (.iload 6, 2) := by decide +kernel
theorem dX12_holdsLine_94 : decode cX12_holdsLine 94 = .ok (.bipush 15, 2) := by decide +kernel
theorem dX12_holdsLine_96 : decode cX12_holdsLine 96 = .ok (.if_icmp .ne 24, 3) := by decide +kernel
theorem dX12_holdsLine_99 : decode cX12_holdsLine 99 = .ok (.aload_n 0, 1) := by decide +kernel
theorem dX12_holdsLine_100 : decode cX12_holdsLine 100 = .ok (.getfield 39, 3) := by decide +kernel
theorem dX12_holdsLine_103 : decode cX12_holdsLine 103 = .ok (.iload_n 3, 1) := by decide +kernel
theorem dX12_holdsLine_104 : decode cX12_holdsLine 104 = .ok (.iconst 1, 1) := by decide +kernel
theorem dX12_holdsLine_105 : decode cX12_holdsLine 105 = .ok (.isub, 1) := by decide +kernel
theorem dX12_holdsLine_106 : decode cX12_holdsLine 106 = .ok (.iconst 1, 1) := by decide +kernel
theorem dX12_holdsLine_107 : decode cX12_holdsLine 107 = .ok (.aload_n 0, 1) := by decide +kernel
theorem dX12_holdsLine_108 : decode cX12_holdsLine 108 = .ok (.getfield 39, 3) := by decide +kernel
theorem dX12_holdsLine_111 : decode cX12_holdsLine 111 = .ok (.iload_n 3, 1) := by decide +kernel
theorem dX12_holdsLine_112 : decode cX12_holdsLine 112 = .ok (.iconst 1, 1) := by decide +kernel
theorem dX12_holdsLine_113 : decode cX12_holdsLine 113 = .ok (.isub, 1) := by decide +kernel
theorem dX12_holdsLine_114 : decode cX12_holdsLine 114 = .ok (.iaload, 1) := by decide +kernel
theorem dX12_holdsLine_115 : decode cX12_holdsLine 115 = .ok (.isub, 1) := by decide +kernel
theorem dX12_holdsLine_116 : decode cX12_holdsLine 116 = .ok (.iastore, 1) := by decide +kernel
theorem dX12_holdsLine_117 : decode cX12_holdsLine 117 = .ok (.goto 140, 3) := by decide +kernel
theorem dX12_holdsLine_120 : decode cX12_holdsLine 120 = .ok (.iinc 3 (-1), 3) := by decide +kernel
theorem dX12_holdsLine_123 : decode cX12_holdsLine 123 = .ok (.aload_n 0, 1) := by decide +kernel
theorem dX12_holdsLine_124 : decode cX12_holdsLine 124 = .ok (.getfield 39, 3) := by decide +kernel
theorem dX12_holdsLine_127 : decode cX12_holdsLine 127 = .ok (.iload_n 3, 1) := by decide +kernel
theorem dX12_holdsLine_128 : decode cX12_holdsLine 128 = .ok (.iconst 1, 1) := by decide +kernel
theorem dX12_holdsLine_129 : decode cX12_holdsLine 129 = .ok (.isub, 1) := by decide +kernel
theorem dX12_holdsLine_130 : decode cX12_holdsLine 130 = .ok (.iaload, 1) := by decide +kernel
theorem dX12_holdsLine_131 : decode cX12_holdsLine 131 = .ok (.istore 7, 2) := by decide +kernel
theorem dX12_holdsLine_133 : decode cX12_holdsLine 133 = .ok (.aload_n 0, 1) := by decide +kernel
theorem dX12_holdsLine_134 : decode cX12_holdsLine 134 = .ok (.getfield 39, 3) := by decide +kernel
theorem dX12_holdsLine_137 : decode cX12_holdsLine 137 = .ok (.iload_n 3, 1) := by decide +kernel
theorem dX12_holdsLine_138 : decode cX12_holdsLine 138 = .ok (.iaload, 1) := by decide +kernel
theorem dX12_holdsLine_139 : decode cX12_holdsLine 139 = .ok (.istore 8, 2) := by decide +kernel
theorem dX12_holdsLine_141 : decode cX12_holdsLine 141 = .ok (.iload 6, 2) := by decide +kernel
theorem dX12_holdsLine_143 : decode cX12_holdsLine 143 = .ok (.bipush 13, 2) := by decide +kernel
theorem dX12_holdsLine_145 : decode cX12_holdsLine 145 = .ok (.if_icmp .ne 18, 3) := by decide +kernel
theorem dX12_holdsLine_148 : decode cX12_holdsLine 148 = .ok (.iload 7, 2) := by decide +kernel
theorem dX12_holdsLine_150 : decode cX12_holdsLine 150 = .ok (.iload 8, 2) := by decide +kernel
theorem dX12_holdsLine_152 : decode cX12_holdsLine 152 = .ok (.if_icmp .ge 7, 3) := by decide +kernel
theorem dX12_holdsLine_155 : decode cX12_holdsLine 155 = .ok (.iconst 1, 1) := by decide +kernel
theorem dX12_holdsLine_156 : decode cX12_holdsLine 156 = .ok (.goto 66, 3) := by decide +kernel
theorem dX12_holdsLine_159 : decode cX12_holdsLine 159 = .ok (.iconst 0, 1) := by decide +kernel
theorem dX12_holdsLine_160 : decode cX12_holdsLine 160 = .ok (.goto 62, 3) := by decide +kernel
theorem dX12_holdsLine_163 : decode cX12_holdsLine 163 = .ok (.iload 6, 2) := by decide +kernel
theorem dX12_holdsLine_165 : decode cX12_holdsLine 165 = .ok (.bipush 14, 2) := by decide +kernel
theorem dX12_holdsLine_167 : decode cX12_holdsLine 167 = .ok (.if_icmp .ne 18, 3) := by decide +kernel
theorem dX12_holdsLine_170 : decode cX12_holdsLine 170 = .ok (.iload 7, 2) := by decide +kernel
theorem dX12_holdsLine_172 : decode cX12_holdsLine 172 = .ok (.iload 8, 2) := by decide +kernel
theorem dX12_holdsLine_174 : decode cX12_holdsLine 174 = .ok (.if_icmp .le 7, 3) := by decide +kernel
theorem dX12_holdsLine_177 : decode cX12_holdsLine 177 = .ok (.iconst 1, 1) := by decide +kernel
theorem dX12_holdsLine_178 : decode cX12_holdsLine 178 = .ok (.goto 44, 3) := by decide +kernel
theorem dX12_holdsLine_181 : decode cX12_holdsLine 181 = .ok (.iconst 0, 1) := by decide +kernel
theorem dX12_holdsLine_182 : decode cX12_holdsLine 182 = .ok (.goto 40, 3) := by decide +kernel
theorem dX12_holdsLine_185 : decode cX12_holdsLine 185 = .ok (.iload 6, 2) := by decide +kernel
theorem dX12_holdsLine_187 : decode cX12_holdsLine 187 = .ok (.bipush 16, 2) := by decide +kernel
theorem dX12_holdsLine_189 : decode cX12_holdsLine 189 = .ok (.if_icmp .ne 20, 3) := by decide +kernel
theorem dX12_holdsLine_192 : decode cX12_holdsLine 192 = .ok (.iload 7, 2) := by decide +kernel
theorem dX12_holdsLine_194 : decode cX12_holdsLine 194 = .ok (.iload 8, 2) := by decide +kernel
theorem dX12_holdsLine_196 : decode cX12_holdsLine 196 = .ok (.iadd, 1) := by decide +kernel
theorem dX12_holdsLine_197 : decode cX12_holdsLine 197 = .ok (.iconst 2, 1) := by decide +kernel
theorem dX12_holdsLine_198 : decode cX12_holdsLine 198 = .ok (.if_icmp .ne 7, 3) := by decide +kernel
theorem dX12_holdsLine_201 : decode cX12_holdsLine 201 = .ok (.iconst 1, 1) := by decide +kernel
theorem dX12_holdsLine_202 : decode cX12_holdsLine 202 = .ok (.goto 20, 3) := by decide +kernel
theorem dX12_holdsLine_205 : decode cX12_holdsLine 205 = .ok (.iconst 0, 1) := by decide +kernel
theorem dX12_holdsLine_206 : decode cX12_holdsLine 206 = .ok (.goto 16, 3) := by decide +kernel
theorem dX12_holdsLine_209 : decode cX12_holdsLine 209 = .ok (.iload 7, 2) := by decide +kernel
theorem dX12_holdsLine_211 : decode cX12_holdsLine 211 = .ok (.iload 8, 2) := by decide +kernel
theorem dX12_holdsLine_213 : decode cX12_holdsLine 213 = .ok (.iadd, 1) := by decide +kernel
theorem dX12_holdsLine_214 : decode cX12_holdsLine 214 = .ok (.ifCond .le 7, 3) := by decide +kernel
theorem dX12_holdsLine_217 : decode cX12_holdsLine 217 = .ok (.iconst 1, 1) := by decide +kernel
theorem dX12_holdsLine_218 : decode cX12_holdsLine 218 = .ok (.goto 4, 3) := by decide +kernel
theorem dX12_holdsLine_221 : decode cX12_holdsLine 221 = .ok (.iconst 0, 1) := by decide +kernel
theorem dX12_holdsLine_222 : decode cX12_holdsLine 222 = .ok (.istore 9, 2) := by decide +kernel
theorem dX12_holdsLine_224 : decode cX12_holdsLine 224 = .ok (.aload_n 0, 1) := by decide +kernel
theorem dX12_holdsLine_225 : decode cX12_holdsLine 225 = .ok (.getfield 39, 3) := by decide +kernel
theorem dX12_holdsLine_228 : decode cX12_holdsLine 228 = .ok (.iload_n 3, 1) := by decide +kernel
theorem dX12_holdsLine_229 : decode cX12_holdsLine 229 = .ok (.iconst 1, 1) := by decide +kernel
theorem dX12_holdsLine_230 : decode cX12_holdsLine 230 = .ok (.isub, 1) := by decide +kernel
theorem dX12_holdsLine_231 : decode cX12_holdsLine 231 = .ok (.iload 6, 2) := by decide +kernel
theorem dX12_holdsLine_233 : decode cX12_holdsLine 233 = .ok (.bipush 12, 2) := by decide +kernel
theorem dX12_holdsLine_235 : decode cX12_holdsLine 235 = .ok (.if_icmp .ne 11, 3) := by decide +kernel
theorem dX12_holdsLine_238 : decode cX12_holdsLine 238 = .ok (.iload 7, 2) := by decide +kernel
theorem dX12_holdsLine_240 : decode cX12_holdsLine 240 = .ok (.iload 8, 2) := by decide +kernel
theorem dX12_holdsLine_242 : decode cX12_holdsLine 242 = .ok (.iadd, 1) := by decide +kernel
theorem dX12_holdsLine_243 : decode cX12_holdsLine 243 = .ok (.goto 13, 3) := by decide +kernel
theorem dX12_holdsLine_246 : decode cX12_holdsLine 246 = .ok (.iload 9, 2) := by decide +kernel
theorem dX12_holdsLine_248 : decode cX12_holdsLine 248 = .ok (.ifCond .eq 7, 3) := by decide +kernel
theorem dX12_holdsLine_251 : decode cX12_holdsLine 251 = .ok (.iconst 1, 1) := by decide +kernel
theorem dX12_holdsLine_252 : decode cX12_holdsLine 252 = .ok (.goto 4, 3) := by decide +kernel
theorem dX12_holdsLine_255 : decode cX12_holdsLine 255 = .ok (.iconst 0, 1) := by decide +kernel
theorem dX12_holdsLine_256 : decode cX12_holdsLine 256 = .ok (.iastore, 1) := by decide +kernel
theorem dX12_holdsLine_257 : decode cX12_holdsLine 257 = .ok (.iinc 5 1, 3) := by decide +kernel
theorem dX12_holdsLine_260 : decode cX12_holdsLine 260 = .ok (.goto (-238), 3) := by decide +kernel
theorem dX12_holdsLine_263 : decode cX12_holdsLine 263 = .ok (.iload_n 3, 1) := by decide +kernel
theorem dX12_holdsLine_264 : decode cX12_holdsLine 264 = .ok (.ifCond .eq 13, 3) := by decide +kernel
theorem dX12_holdsLine_267 : decode cX12_holdsLine 267 = .ok (.aload_n 0, 1) := by decide +kernel
theorem dX12_holdsLine_268 : decode cX12_holdsLine 268 = .ok (.getfield 39, 3) := by decide +kernel
theorem dX12_holdsLine_271 : decode cX12_holdsLine 271 = .ok (.iconst 0, 1) := by decide +kernel
theorem dX12_holdsLine_272 : decode cX12_holdsLine 272 = .ok (.iaload, 1) := by decide +kernel
theorem dX12_holdsLine_273 : decode cX12_holdsLine 273 = .ok (.iconst 1, 1) := by decide +kernel
theorem dX12_holdsLine_274 : decode cX12_holdsLine 274 = .ok (.if_icmp .ne 7, 3) := by decide +kernel
theorem dX12_holdsLine_277 : decode cX12_holdsLine 277 = .ok (.iconst 1, 1) := by decide +kernel
theorem dX12_holdsLine_278 : decode cX12_holdsLine 278 = .ok (.goto 4, 3) := by decide +kernel
theorem dX12_holdsLine_281 : decode cX12_holdsLine 281 = .ok (.iconst 0, 1) := by decide +kernel
theorem dX12_holdsLine_282 : decode cX12_holdsLine 282 = .ok (.ireturn, 1) := by decide +kernel
theorem dX12_byLaw_0 : decode cX12_byLaw 0 = .ok (.aload_n 0, 1) := by decide +kernel
theorem dX12_byLaw_1 : decode cX12_byLaw 1 = .ok (.getfield 13, 3) := by decide +kernel
theorem dX12_byLaw_4 : decode cX12_byLaw 4 = .ok (.iconst 3, 1) := by decide +kernel
theorem dX12_byLaw_5 : decode cX12_byLaw 5 = .ok (.iaload, 1) := by decide +kernel
theorem dX12_byLaw_6 : decode cX12_byLaw 6 = .ok (.ifCond .ne 39, 3) := by decide +kernel
theorem dX12_byLaw_9 : decode cX12_byLaw 9 = .ok (.iload_n 1, 1) := by decide +kernel
theorem dX12_byLaw_10 : decode cX12_byLaw 10 = .ok (.ifCond .ne 21, 3) := by decide +kernel
theorem dX12_byLaw_13 : decode cX12_byLaw 13 = .ok (.aload_n 0, 1) := by decide +kernel
theorem dX12_byLaw_14 : decode cX12_byLaw 14 = .ok (.iload_n 2, 1) := by decide +kernel
theorem dX12_byLaw_15 : decode cX12_byLaw 15 = .ok (.iconst 0, 1) := by decide +kernel
theorem dX12_byLaw_16 : decode cX12_byLaw 16 = .ok (.invokevirtual 275, 3) := by decide +kernel
theorem dX12_byLaw_19 : decode cX12_byLaw 19 = .ok (.iconst 5, 1) := by decide +kernel
theorem dX12_byLaw_20 : decode cX12_byLaw 20 = .ok (.aload_n 0, 1) := by decide +kernel
theorem dX12_byLaw_21 : decode cX12_byLaw 21 = .ok (.iload_n 2, 1) := by decide +kernel
theorem dX12_byLaw_22 : decode cX12_byLaw 22 = .ok (.iconst 5, 1) := by decide +kernel
theorem dX12_byLaw_23 : decode cX12_byLaw 23 = .ok (.invokevirtual 70, 3) := by decide +kernel
theorem dX12_byLaw_26 : decode cX12_byLaw 26 = .ok (.imul, 1) := by decide +kernel
theorem dX12_byLaw_27 : decode cX12_byLaw 27 = .ok (.iadd, 1) := by decide +kernel
theorem dX12_byLaw_28 : decode cX12_byLaw 28 = .ok (.goto 16, 3) := by decide +kernel
theorem dX12_byLaw_31 : decode cX12_byLaw 31 = .ok (.iload_n 1, 1) := by decide +kernel
theorem dX12_byLaw_32 : decode cX12_byLaw 32 = .ok (.iconst 1, 1) := by decide +kernel
theorem dX12_byLaw_33 : decode cX12_byLaw 33 = .ok (.if_icmp .ne 10, 3) := by decide +kernel
theorem dX12_byLaw_36 : decode cX12_byLaw 36 = .ok (.aload_n 0, 1) := by decide +kernel
theorem dX12_byLaw_37 : decode cX12_byLaw 37 = .ok (.invokevirtual 278, 3) := by decide +kernel
theorem dX12_byLaw_40 : decode cX12_byLaw 40 = .ok (.goto 4, 3) := by decide +kernel
theorem dX12_byLaw_43 : decode cX12_byLaw 43 = .ok (.iconst 0, 1) := by decide +kernel
theorem dX12_byLaw_44 : decode cX12_byLaw 44 = .ok (.ireturn, 1) := by decide +kernel
theorem dX12_byLaw_45 : decode cX12_byLaw 45 = .ok (.iload_n 1, 1) := by decide +kernel
theorem dX12_byLaw_46 : decode cX12_byLaw 46 = .ok (.iconst 1, 1) := by decide +kernel
theorem dX12_byLaw_47 : decode cX12_byLaw 47 = .ok (.if_icmp .ne 10, 3) := by decide +kernel
theorem dX12_byLaw_50 : decode cX12_byLaw 50 = .ok (.aload_n 0, 1) := by decide +kernel
theorem dX12_byLaw_51 : decode cX12_byLaw 51 = .ok (.invokevirtual 278, 3) := by decide +kernel
theorem dX12_byLaw_54 : decode cX12_byLaw 54 = .ok (.goto 4, 3) := by decide +kernel
theorem dX12_byLaw_57 : decode cX12_byLaw 57 = .ok (.iconst 0, 1) := by decide +kernel
theorem dX12_byLaw_58 : decode cX12_byLaw 58 = .ok (.istore_n 3, 1) := by decide +kernel
theorem dX12_byLaw_59 : decode cX12_byLaw 59 = .ok (.iconst 0, 1) := by decide +kernel
theorem dX12_byLaw_60 : decode cX12_byLaw 60 = .ok (.istore 4, 2) := by decide +kernel
theorem dX12_byLaw_62 : decode cX12_byLaw 62 = .ok (.iload 4, 2) := by decide +kernel
theorem dX12_byLaw_64 : decode cX12_byLaw 64 = .ok (.aload_n 0, 1) := by decide +kernel
theorem dX12_byLaw_65 : decode cX12_byLaw 65 = .ok (.getfield 13, 3) := by decide +kernel
theorem dX12_byLaw_68 : decode cX12_byLaw 68 = .ok (.sipush 364, 3) := by decide +kernel
theorem dX12_byLaw_71 : decode cX12_byLaw 71 = .ok (.iaload, 1) := by decide +kernel
theorem dX12_byLaw_72 : decode cX12_byLaw 72 = .ok (.if_icmp .ge 54, 3) := by decide +kernel
theorem dX12_byLaw_75 : decode cX12_byLaw 75 = .ok (.aload_n 0, 1) := by decide +kernel
theorem dX12_byLaw_76 : decode cX12_byLaw 76 = .ok (.getfield 13, 3) := by decide +kernel
theorem dX12_byLaw_79 : decode cX12_byLaw 79 = .ok (.sipush 365, 3) := by decide +kernel
theorem dX12_byLaw_82 : decode cX12_byLaw 82 = .ok (.iconst 4, 1) := by decide +kernel
theorem dX12_byLaw_83 : decode cX12_byLaw 83 = .ok (.iload 4, 2) := by decide +kernel
theorem dX12_byLaw_85 : decode cX12_byLaw 85 = .ok (.imul, 1) := by decide +kernel
theorem dX12_byLaw_86 : decode cX12_byLaw 86 = .ok (.iadd, 1) := by decide +kernel
theorem dX12_byLaw_87 : decode cX12_byLaw 87 = .ok (.iaload, 1) := by decide +kernel
theorem dX12_byLaw_88 : decode cX12_byLaw 88 = .ok (.iload_n 1, 1) := by decide +kernel
theorem dX12_byLaw_89 : decode cX12_byLaw 89 = .ok (.if_icmp .ne 31, 3) := by decide +kernel
theorem dX12_byLaw_92 : decode cX12_byLaw 92 = .ok (.aload_n 0, 1) := by decide +kernel
theorem dX12_byLaw_93 : decode cX12_byLaw 93 = .ok (.iload 4, 2) := by decide +kernel
theorem dX12_byLaw_95 : decode cX12_byLaw 95 = .ok (.iload_n 2, 1) := by decide +kernel
theorem dX12_byLaw_96 : decode cX12_byLaw 96 = .ok (.invokevirtual 288, 3) := by decide +kernel
theorem dX12_byLaw_99 : decode cX12_byLaw 99 = .ok (.ifCond .eq 21, 3) := by decide +kernel
theorem dX12_byLaw_102 : decode cX12_byLaw 102 = .ok (.iload_n 3, 1) := by decide +kernel
theorem dX12_byLaw_103 : decode cX12_byLaw 103 = .ok (.aload_n 0, 1) := by decide +kernel
theorem dX12_byLaw_104 : decode cX12_byLaw 104 = .ok (.getfield 13, 3) := by decide +kernel
theorem dX12_byLaw_107 : decode cX12_byLaw 107 = .ok (.sipush 365, 3) := by decide +kernel
theorem dX12_byLaw_110 : decode cX12_byLaw 110 = .ok (.iconst 4, 1) := by decide +kernel
theorem dX12_byLaw_111 : decode cX12_byLaw 111 = .ok (.iload 4, 2) := by decide +kernel
theorem dX12_byLaw_113 : decode cX12_byLaw 113 = .ok (.imul, 1) := by decide +kernel
theorem dX12_byLaw_114 : decode cX12_byLaw 114 = .ok (.iadd, 1) := by decide +kernel
theorem dX12_byLaw_115 : decode cX12_byLaw 115 = .ok (.iconst 1, 1) := by decide +kernel
theorem dX12_byLaw_116 : decode cX12_byLaw 116 = .ok (.iadd, 1) := by decide +kernel
theorem dX12_byLaw_117 : decode cX12_byLaw 117 = .ok (.iaload, 1) := by decide +kernel
theorem dX12_byLaw_118 : decode cX12_byLaw 118 = .ok (.iadd, 1) := by decide +kernel
theorem dX12_byLaw_119 : decode cX12_byLaw 119 = .ok (.istore_n 3, 1) := by decide +kernel
theorem dX12_byLaw_120 : decode cX12_byLaw 120 = .ok (.iinc 4 1, 3) := by decide +kernel
theorem dX12_byLaw_123 : decode cX12_byLaw 123 = .ok (.goto (-61), 3) := by decide +kernel
theorem dX12_byLaw_126 : decode cX12_byLaw 126 = .ok (.iload_n 3, 1) := by decide +kernel
theorem dX12_byLaw_127 : decode cX12_byLaw 127 = .ok (.ireturn, 1) := by decide +kernel
theorem dX12_shareOf_0 : decode cX12_shareOf 0 = .ok (.aload_n 0, 1) := by decide +kernel
theorem dX12_shareOf_1 : decode cX12_shareOf 1 = .ok (.aload_n 0, 1) := by decide +kernel
theorem dX12_shareOf_2 : decode cX12_shareOf 2 = .ok (.invokevirtual 291, 3) := by decide +kernel
theorem dX12_shareOf_5 : decode cX12_shareOf 5 = .ok (.invokevirtual 294, 3) := by decide +kernel
theorem dX12_shareOf_8 : decode cX12_shareOf 8 = .ok (.istore_n 2, 1) := by decide +kernel
theorem dX12_shareOf_9 : decode cX12_shareOf 9 = .ok (.iload_n 2, 1) := by decide +kernel
theorem dX12_shareOf_10 : decode cX12_shareOf 10 = .ok (.ifCond .eq 11, 3) := by decide +kernel
theorem dX12_shareOf_13 : decode cX12_shareOf 13 = .ok (.aload_n 0, 1) := by decide +kernel
theorem dX12_shareOf_14 : decode cX12_shareOf 14 = .ok (.iload_n 1, 1) := by decide +kernel
theorem dX12_shareOf_15 : decode cX12_shareOf 15 = .ok (.invokevirtual 76, 3) := by decide +kernel
theorem dX12_shareOf_18 : decode cX12_shareOf 18 = .ok (.ifCond .eq 7, 3) := by decide +kernel
theorem dX12_shareOf_21 : decode cX12_shareOf 21 = .ok (.iconst 0, 1) := by decide +kernel
theorem dX12_shareOf_22 : decode cX12_shareOf 22 = .ok (.goto 14, 3) := by decide +kernel
theorem dX12_shareOf_25 : decode cX12_shareOf 25 = .ok (.bipush 100, 2) := by decide +kernel
theorem dX12_shareOf_27 : decode cX12_shareOf 27 = .ok (.aload_n 0, 1) := by decide +kernel
theorem dX12_shareOf_28 : decode cX12_shareOf 28 = .ok (.iload_n 1, 1) := by decide +kernel
theorem dX12_shareOf_29 : decode cX12_shareOf 29 = .ok (.iconst 4, 1) := by decide +kernel
theorem dX12_shareOf_30 : decode cX12_shareOf 30 = .ok (.invokevirtual 70, 3) := by decide +kernel
theorem dX12_shareOf_33 : decode cX12_shareOf 33 = .ok (.imul, 1) := by decide +kernel
theorem dX12_shareOf_34 : decode cX12_shareOf 34 = .ok (.iload_n 2, 1) := by decide +kernel
theorem dX12_shareOf_35 : decode cX12_shareOf 35 = .ok (.idiv, 1) := by decide +kernel
theorem dX12_shareOf_36 : decode cX12_shareOf 36 = .ok (.ireturn, 1) := by decide +kernel
theorem dX12_givesOf_0 : decode cX12_givesOf 0 = .ok (.iconst 0, 1) := by decide +kernel
theorem dX12_givesOf_1 : decode cX12_givesOf 1 = .ok (.istore_n 2, 1) := by decide +kernel
theorem dX12_givesOf_2 : decode cX12_givesOf 2 = .ok (.iconst 0, 1) := by decide +kernel
theorem dX12_givesOf_3 : decode cX12_givesOf 3 = .ok (.istore_n 3, 1) := by decide +kernel
theorem dX12_givesOf_4 : decode cX12_givesOf 4 = .ok (.iload_n 3, 1) := by decide +kernel
theorem dX12_givesOf_5 : decode cX12_givesOf 5 = .ok (.aload_n 0, 1) := by decide +kernel
theorem dX12_givesOf_6 : decode cX12_givesOf 6 = .ok (.invokevirtual 73, 3) := by decide +kernel
theorem dX12_givesOf_9 : decode cX12_givesOf 9 = .ok (.if_icmp .ge 39, 3) := by decide +kernel
theorem dX12_givesOf_12 : decode cX12_givesOf 12 = .ok (.iload_n 2, 1) := by decide +kernel
theorem dX12_givesOf_13 : decode cX12_givesOf 13 = .ok (.aload_n 0, 1) := by decide +kernel
theorem dX12_givesOf_14 : decode cX12_givesOf 14 = .ok (.iload_n 3, 1) := by decide +kernel
theorem dX12_givesOf_15 : decode cX12_givesOf 15 = .ok (.invokevirtual 76, 3) := by decide +kernel
theorem dX12_givesOf_18 : decode cX12_givesOf 18 = .ok (.ifCond .ne 21, 3) := by decide +kernel
theorem dX12_givesOf_21 : decode cX12_givesOf 21 = .ok (.aload_n 0, 1) := by decide +kernel
theorem dX12_givesOf_22 : decode cX12_givesOf 22 = .ok (.iload_n 3, 1) := by decide +kernel
theorem dX12_givesOf_23 : decode cX12_givesOf 23 = .ok (.iload_n 1, 1) := by decide +kernel
theorem dX12_givesOf_24 : decode cX12_givesOf 24 = .ok (.invokevirtual 298, 3) := by decide +kernel
theorem dX12_givesOf_27 : decode cX12_givesOf 27 = .ok (.ifCond .eq 12, 3) := by decide +kernel
theorem dX12_givesOf_30 : decode cX12_givesOf 30 = .ok (.aload_n 0, 1) := by decide +kernel
theorem dX12_givesOf_31 : decode cX12_givesOf 31 = .ok (.iload_n 3, 1) := by decide +kernel
theorem dX12_givesOf_32 : decode cX12_givesOf 32 = .ok (.iconst 4, 1) := by decide +kernel
theorem dX12_givesOf_33 : decode cX12_givesOf 33 = .ok (.invokevirtual 70, 3) := by decide +kernel
theorem dX12_givesOf_36 : decode cX12_givesOf 36 = .ok (.goto 4, 3) := by decide +kernel
theorem dX12_givesOf_39 : decode cX12_givesOf 39 = .ok (.iconst 0, 1) := by decide +kernel
theorem dX12_givesOf_40 : decode cX12_givesOf 40 = .ok (.iadd, 1) := by decide +kernel
theorem dX12_givesOf_41 : decode cX12_givesOf 41 = .ok (.istore_n 2, 1) := by decide +kernel
theorem dX12_givesOf_42 : decode cX12_givesOf 42 = .ok (.iinc 3 1, 3) := by decide +kernel
theorem dX12_givesOf_45 : decode cX12_givesOf 45 = .ok (.goto (-41), 3) := by decide +kernel
theorem dX12_givesOf_48 : decode cX12_givesOf 48 = .ok (.iload_n 2, 1) := by decide +kernel
theorem dX12_givesOf_49 : decode cX12_givesOf 49 = .ok (.ireturn, 1) := by decide +kernel
theorem dX12_family_0 : decode cX12_family 0 = .ok (.aload_n 0, 1) := by decide +kernel
theorem dX12_family_1 : decode cX12_family 1 = .ok (.iconst 0, 1) := by decide +kernel
theorem dX12_family_2 : decode cX12_family 2 = .ok (.putfield 3, 3) := by decide +kernel
theorem dX12_family_5 : decode cX12_family 5 = .ok (.aload_n 0, 1) := by decide +kernel
theorem dX12_family_6 : decode cX12_family 6 = .ok (.aload_n 0, 1) := by decide +kernel
theorem dX12_family_7 : decode cX12_family 7 = .ok (.iload_n 1, 1) := by decide +kernel
theorem dX12_family_8 : decode cX12_family 8 = .ok (.invokevirtual 301, 3) := by decide +kernel
theorem dX12_family_11 : decode cX12_family 11 = .ok (.iconst 1, 1) := by decide +kernel
theorem dX12_family_12 : decode cX12_family 12 = .ok (.invokevirtual 269, 3) := by decide +kernel
theorem dX12_family_15 : decode cX12_family 15 = .ok (.ifCond .ne 26, 3) := by decide +kernel
theorem dX12_family_18 : decode cX12_family 18 = .ok (.aload_n 0, 1) := by decide +kernel
theorem dX12_family_19 : decode cX12_family 19 = .ok (.iload_n 2, 1) := by decide +kernel
theorem dX12_family_20 : decode cX12_family 20 = .ok (.iconst 0, 1) := by decide +kernel
theorem dX12_family_21 : decode cX12_family 21 = .ok (.bipush 6, 2) := by decide +kernel
theorem dX12_family_23 : decode cX12_family 23 = .ok (.invokestatic 84, 3) := by decide +kernel
theorem dX12_family_26 : decode cX12_family 26 = .ok (.ifCond .ne 7, 3) := by decide +kernel
theorem dX12_family_29 : decode cX12_family 29 = .ok (.iconst 1, 1) := by decide +kernel
theorem dX12_family_30 : decode cX12_family 30 = .ok (.goto 4, 3) := by decide +kernel
theorem dX12_family_33 : decode cX12_family 33 = .ok (.iconst 0, 1) := by decide +kernel
theorem dX12_family_34 : decode cX12_family 34 = .ok (.iconst 2, 1) := by decide +kernel
theorem dX12_family_35 : decode cX12_family 35 = .ok (.invokevirtual 269, 3) := by decide +kernel
theorem dX12_family_38 : decode cX12_family 38 = .ok (.ifCond .eq 5, 3) := by decide +kernel
theorem dX12_family_41 : decode cX12_family 41 = .ok (.iconst 0, 1) := by decide +kernel
theorem dX12_family_42 : decode cX12_family 42 = .ok (.ireturn, 1) := by decide +kernel
theorem dX12_family_43 : decode cX12_family 43 = .ok (.iload_n 2, 1) := by decide +kernel
theorem dX12_family_44 : decode cX12_family 44 = .ok (.tableswitch 67 4 6 #[28, 34, 40], 28) := by decide +kernel
theorem dX12_family_72 : decode cX12_family 72 = .ok (.aload_n 0, 1) := by decide +kernel
theorem dX12_family_73 : decode cX12_family 73 = .ok (.iload_n 1, 1) := by decide +kernel
theorem dX12_family_74 : decode cX12_family 74 = .ok (.invokevirtual 304, 3) := by decide +kernel
theorem dX12_family_77 : decode cX12_family 77 = .ok (.ireturn, 1) := by decide +kernel
theorem dX12_family_78 : decode cX12_family 78 = .ok (.aload_n 0, 1) := by decide +kernel
theorem dX12_family_79 : decode cX12_family 79 = .ok (.iload_n 1, 1) := by decide +kernel
theorem dX12_family_80 : decode cX12_family 80 = .ok (.invokevirtual 307, 3) := by decide +kernel
theorem dX12_family_83 : decode cX12_family 83 = .ok (.ireturn, 1) := by decide +kernel
theorem dX12_family_84 : decode cX12_family 84 = .ok (.iconst 0, 1) := by decide +kernel
theorem dX12_family_85 : decode cX12_family 85 = .ok (.aload_n 0, 1) := by decide +kernel
theorem dX12_family_86 : decode cX12_family 86 = .ok (.iload_n 1, 1) := by decide +kernel
theorem dX12_family_87 : decode cX12_family 87 = .ok (.invokevirtual 304, 3) := by decide +kernel
theorem dX12_family_90 : decode cX12_family 90 = .ok (.bipush 10, 2) := by decide +kernel
theorem dX12_family_92 : decode cX12_family 92 = .ok (.idiv, 1) := by decide +kernel
theorem dX12_family_93 : decode cX12_family 93 = .ok (.aload_n 0, 1) := by decide +kernel
theorem dX12_family_94 : decode cX12_family 94 = .ok (.iload_n 1, 1) := by decide +kernel
theorem dX12_family_95 : decode cX12_family 95 = .ok (.iconst 0, 1) := by decide +kernel
theorem dX12_family_96 : decode cX12_family 96 = .ok (.invokevirtual 272, 3) := by decide +kernel
theorem dX12_family_99 : decode cX12_family 99 = .ok (.iadd, 1) := by decide +kernel
theorem dX12_family_100 : decode cX12_family 100 = .ok (.aload_n 0, 1) := by decide +kernel
theorem dX12_family_101 : decode cX12_family 101 = .ok (.iload_n 1, 1) := by decide +kernel
theorem dX12_family_102 : decode cX12_family 102 = .ok (.iconst 3, 1) := by decide +kernel
theorem dX12_family_103 : decode cX12_family 103 = .ok (.invokevirtual 272, 3) := by decide +kernel
theorem dX12_family_106 : decode cX12_family 106 = .ok (.isub, 1) := by decide +kernel
theorem dX12_family_107 : decode cX12_family 107 = .ok (.invokestatic 310, 3) := by decide +kernel
theorem dX12_family_110 : decode cX12_family 110 = .ok (.ireturn, 1) := by decide +kernel
theorem dX12_family_111 : decode cX12_family 111 = .ok (.aload_n 0, 1) := by decide +kernel
theorem dX12_family_112 : decode cX12_family 112 = .ok (.iload_n 1, 1) := by decide +kernel
theorem dX12_family_113 : decode cX12_family 113 = .ok (.iload_n 2, 1) := by decide +kernel
theorem dX12_family_114 : decode cX12_family 114 = .ok (.invokevirtual 272, 3) := by decide +kernel
theorem dX12_family_117 : decode cX12_family 117 = .ok (.ireturn, 1) := by decide +kernel
theorem dX12_grudge_0 : decode cX12_grudge 0 = .ok (.aload_n 0, 1) := by decide +kernel
theorem dX12_grudge_1 : decode cX12_grudge 1 = .ok (.iconst 0, 1) := by decide +kernel
theorem dX12_grudge_2 : decode cX12_grudge 2 = .ok (.putfield 3, 3) := by decide +kernel
theorem dX12_grudge_5 : decode cX12_grudge 5 = .ok (.aload_n 0, 1) := by decide +kernel
theorem dX12_grudge_6 : decode cX12_grudge 6 = .ok (.aload_n 0, 1) := by decide +kernel
theorem dX12_grudge_7 : decode cX12_grudge 7 = .ok (.iload_n 1, 1) := by decide +kernel
theorem dX12_grudge_8 : decode cX12_grudge 8 = .ok (.invokevirtual 315, 3) := by decide +kernel
theorem dX12_grudge_11 : decode cX12_grudge 11 = .ok (.iconst 1, 1) := by decide +kernel
theorem dX12_grudge_12 : decode cX12_grudge 12 = .ok (.invokevirtual 269, 3) := by decide +kernel
theorem dX12_grudge_15 : decode cX12_grudge 15 = .ok (.ifCond .ne 26, 3) := by decide +kernel
theorem dX12_grudge_18 : decode cX12_grudge 18 = .ok (.aload_n 0, 1) := by decide +kernel
theorem dX12_grudge_19 : decode cX12_grudge 19 = .ok (.iload_n 2, 1) := by decide +kernel
theorem dX12_grudge_20 : decode cX12_grudge 20 = .ok (.iconst 0, 1) := by decide +kernel
theorem dX12_grudge_21 : decode cX12_grudge 21 = .ok (.bipush 10, 2) := by decide +kernel
theorem dX12_grudge_23 : decode cX12_grudge 23 = .ok (.invokestatic 84, 3) := by decide +kernel
theorem dX12_grudge_26 : decode cX12_grudge 26 = .ok (.ifCond .ne 7, 3) := by decide +kernel
theorem dX12_grudge_29 : decode cX12_grudge 29 = .ok (.iconst 1, 1) := by decide +kernel
theorem dX12_grudge_30 : decode cX12_grudge 30 = .ok (.goto 4, 3) := by decide +kernel
theorem dX12_grudge_33 : decode cX12_grudge 33 = .ok (.iconst 0, 1) := by decide +kernel
theorem dX12_grudge_34 : decode cX12_grudge 34 = .ok (.iconst 2, 1) := by decide +kernel
theorem dX12_grudge_35 : decode cX12_grudge 35 = .ok (.invokevirtual 269, 3) := by decide +kernel
theorem dX12_grudge_38 : decode cX12_grudge 38 = .ok (.ifCond .eq 5, 3) := by decide +kernel
theorem dX12_grudge_41 : decode cX12_grudge 41 = .ok (.iconst 0, 1) := by decide +kernel
theorem dX12_grudge_42 : decode cX12_grudge 42 = .ok (.ireturn, 1) := by decide +kernel
theorem dX12_grudge_43 : decode cX12_grudge 43 = .ok (.iload_n 2, 1) := by decide +kernel
theorem dX12_grudge_44 : decode cX12_grudge 44 = .ok (.tableswitch 59 7 10 #[32, 39, 46, 53], 32) := by decide +kernel
theorem dX12_grudge_76 : decode cX12_grudge 76 = .ok (.aload_n 0, 1) := by decide +kernel
theorem dX12_grudge_77 : decode cX12_grudge 77 = .ok (.iconst 0, 1) := by decide +kernel
theorem dX12_grudge_78 : decode cX12_grudge 78 = .ok (.iload_n 1, 1) := by decide +kernel
theorem dX12_grudge_79 : decode cX12_grudge 79 = .ok (.invokevirtual 318, 3) := by decide +kernel
theorem dX12_grudge_82 : decode cX12_grudge 82 = .ok (.ireturn, 1) := by decide +kernel
theorem dX12_grudge_83 : decode cX12_grudge 83 = .ok (.aload_n 0, 1) := by decide +kernel
theorem dX12_grudge_84 : decode cX12_grudge 84 = .ok (.iconst 1, 1) := by decide +kernel
theorem dX12_grudge_85 : decode cX12_grudge 85 = .ok (.iload_n 1, 1) := by decide +kernel
theorem dX12_grudge_86 : decode cX12_grudge 86 = .ok (.invokevirtual 318, 3) := by decide +kernel
theorem dX12_grudge_89 : decode cX12_grudge 89 = .ok (.ireturn, 1) := by decide +kernel
theorem dX12_grudge_90 : decode cX12_grudge 90 = .ok (.aload_n 0, 1) := by decide +kernel
theorem dX12_grudge_91 : decode cX12_grudge 91 = .ok (.iconst 2, 1) := by decide +kernel
theorem dX12_grudge_92 : decode cX12_grudge 92 = .ok (.iload_n 1, 1) := by decide +kernel
theorem dX12_grudge_93 : decode cX12_grudge 93 = .ok (.invokevirtual 318, 3) := by decide +kernel
theorem dX12_grudge_96 : decode cX12_grudge 96 = .ok (.ireturn, 1) := by decide +kernel
theorem dX12_grudge_97 : decode cX12_grudge 97 = .ok (.aload_n 0, 1) := by decide +kernel
theorem dX12_grudge_98 : decode cX12_grudge 98 = .ok (.iload_n 1, 1) := by decide +kernel
theorem dX12_grudge_99 : decode cX12_grudge 99 = .ok (.invokevirtual 321, 3) := by decide +kernel
theorem dX12_grudge_102 : decode cX12_grudge 102 = .ok (.ireturn, 1) := by decide +kernel
theorem dX12_grudge_103 : decode cX12_grudge 103 = .ok (.aload_n 0, 1) := by decide +kernel
theorem dX12_grudge_104 : decode cX12_grudge 104 = .ok (.iload_n 1, 1) := by decide +kernel
theorem dX12_grudge_105 : decode cX12_grudge 105 = .ok (.iload_n 2, 1) := by decide +kernel
theorem dX12_grudge_106 : decode cX12_grudge 106 = .ok (.invokevirtual 70, 3) := by decide +kernel
theorem dX12_grudge_109 : decode cX12_grudge 109 = .ok (.ireturn, 1) := by decide +kernel
theorem dX12_thoseOver_0 : decode cX12_thoseOver 0 = .ok (.iconst 0, 1) := by decide +kernel
theorem dX12_thoseOver_1 : decode cX12_thoseOver 1 = .ok (.istore_n 2, 1) := by decide +kernel
theorem dX12_thoseOver_2 : decode cX12_thoseOver 2 = .ok (.iconst 0, 1) := by decide +kernel
theorem dX12_thoseOver_3 : decode cX12_thoseOver 3 = .ok (.istore_n 3, 1) := by decide +kernel
theorem dX12_thoseOver_4 : decode cX12_thoseOver 4 = .ok (.iload_n 3, 1) := by decide +kernel
theorem dX12_thoseOver_5 : decode cX12_thoseOver 5 = .ok (.aload_n 0, 1) := by decide +kernel
theorem dX12_thoseOver_6 : decode cX12_thoseOver 6 = .ok (.invokevirtual 73, 3) := by decide +kernel
theorem dX12_thoseOver_9 : decode cX12_thoseOver 9 = .ok (.if_icmp .ge 37, 3) := by decide +kernel
theorem dX12_thoseOver_12 : decode cX12_thoseOver 12 = .ok (.iload_n 2, 1) := by decide +kernel
theorem dX12_thoseOver_13 : decode cX12_thoseOver 13 = .ok (.aload_n 0, 1) := by decide +kernel
theorem dX12_thoseOver_14 : decode cX12_thoseOver 14 = .ok (.iload_n 3, 1) := by decide +kernel
theorem dX12_thoseOver_15 : decode cX12_thoseOver 15 = .ok (.invokevirtual 76, 3) := by decide +kernel
theorem dX12_thoseOver_18 : decode cX12_thoseOver 18 = .ok (.ifCond .ne 19, 3) := by decide +kernel
theorem dX12_thoseOver_21 : decode cX12_thoseOver 21 = .ok (.aload_n 0, 1) := by decide +kernel
theorem dX12_thoseOver_22 : decode cX12_thoseOver 22 = .ok (.iload_n 3, 1) := by decide +kernel
theorem dX12_thoseOver_23 : decode cX12_thoseOver 23 = .ok (.iconst 2, 1) := by decide +kernel
theorem dX12_thoseOver_24 : decode cX12_thoseOver 24 = .ok (.invokevirtual 70, 3) := by decide +kernel
theorem dX12_thoseOver_27 : decode cX12_thoseOver 27 = .ok (.iload_n 1, 1) := by decide +kernel
theorem dX12_thoseOver_28 : decode cX12_thoseOver 28 = .ok (.if_icmp .ne 9, 3) := by decide +kernel
theorem dX12_thoseOver_31 : decode cX12_thoseOver 31 = .ok (.iconst 1, 1) := by decide +kernel
theorem dX12_thoseOver_32 : decode cX12_thoseOver 32 = .ok (.iload_n 3, 1) := by decide +kernel
theorem dX12_thoseOver_33 : decode cX12_thoseOver 33 = .ok (.ishl, 1) := by decide +kernel
theorem dX12_thoseOver_34 : decode cX12_thoseOver 34 = .ok (.goto 4, 3) := by decide +kernel
theorem dX12_thoseOver_37 : decode cX12_thoseOver 37 = .ok (.iconst 0, 1) := by decide +kernel
theorem dX12_thoseOver_38 : decode cX12_thoseOver 38 = .ok (.ior, 1) := by decide +kernel
theorem dX12_thoseOver_39 : decode cX12_thoseOver 39 = .ok (.istore_n 2, 1) := by decide +kernel
theorem dX12_thoseOver_40 : decode cX12_thoseOver 40 = .ok (.iinc 3 1, 3) := by decide +kernel
theorem dX12_thoseOver_43 : decode cX12_thoseOver 43 = .ok (.goto (-39), 3) := by decide +kernel
theorem dX12_thoseOver_46 : decode cX12_thoseOver 46 = .ok (.iload_n 2, 1) := by decide +kernel
theorem dX12_thoseOver_47 : decode cX12_thoseOver 47 = .ok (.ireturn, 1) := by decide +kernel
theorem dX12_slight_0 : decode cX12_slight 0 = .ok (.aload_n 0, 1) := by decide +kernel
theorem dX12_slight_1 : decode cX12_slight 1 = .ok (.iconst 0, 1) := by decide +kernel
theorem dX12_slight_2 : decode cX12_slight 2 = .ok (.putfield 3, 3) := by decide +kernel
theorem dX12_slight_5 : decode cX12_slight 5 = .ok (.aload_n 0, 1) := by decide +kernel
theorem dX12_slight_6 : decode cX12_slight 6 = .ok (.iload_n 1, 1) := by decide +kernel
theorem dX12_slight_7 : decode cX12_slight 7 = .ok (.invokestatic 324, 3) := by decide +kernel
theorem dX12_slight_10 : decode cX12_slight 10 = .ok (.iconst 1, 1) := by decide +kernel
theorem dX12_slight_11 : decode cX12_slight 11 = .ok (.invokevirtual 269, 3) := by decide +kernel
theorem dX12_slight_14 : decode cX12_slight 14 = .ok (.ifCond .ne 25, 3) := by decide +kernel
theorem dX12_slight_17 : decode cX12_slight 17 = .ok (.aload_n 0, 1) := by decide +kernel
theorem dX12_slight_18 : decode cX12_slight 18 = .ok (.iload_n 2, 1) := by decide +kernel
theorem dX12_slight_19 : decode cX12_slight 19 = .ok (.iconst 0, 1) := by decide +kernel
theorem dX12_slight_20 : decode cX12_slight 20 = .ok (.iconst 2, 1) := by decide +kernel
theorem dX12_slight_21 : decode cX12_slight 21 = .ok (.invokestatic 84, 3) := by decide +kernel
theorem dX12_slight_24 : decode cX12_slight 24 = .ok (.ifCond .ne 7, 3) := by decide +kernel
theorem dX12_slight_27 : decode cX12_slight 27 = .ok (.iconst 1, 1) := by decide +kernel
theorem dX12_slight_28 : decode cX12_slight 28 = .ok (.goto 4, 3) := by decide +kernel
theorem dX12_slight_31 : decode cX12_slight 31 = .ok (.iconst 0, 1) := by decide +kernel
theorem dX12_slight_32 : decode cX12_slight 32 = .ok (.iconst 2, 1) := by decide +kernel
theorem dX12_slight_33 : decode cX12_slight 33 = .ok (.invokevirtual 269, 3) := by decide +kernel
theorem dX12_slight_36 : decode cX12_slight 36 = .ok (.ifCond .eq 5, 3) := by decide +kernel
theorem dX12_slight_39 : decode cX12_slight 39 = .ok (.iconst 0, 1) := by decide +kernel
theorem dX12_slight_40 : decode cX12_slight 40 = .ok (.ireturn, 1) := by decide +kernel
theorem dX12_slight_41 : decode cX12_slight 41 = .ok (.iload_n 2, 1) := by decide +kernel
theorem dX12_slight_42 : decode cX12_slight 42 = .ok (.iconst 2, 1) := by decide +kernel
theorem dX12_slight_43 : decode cX12_slight 43 = .ok (.if_icmp .ne 11, 3) := by decide +kernel
theorem dX12_slight_46 : decode cX12_slight 46 = .ok (.aload_n 0, 1) := by decide +kernel
theorem dX12_slight_47 : decode cX12_slight 47 = .ok (.iload_n 1, 1) := by decide +kernel
theorem dX12_slight_48 : decode cX12_slight 48 = .ok (.invokevirtual 327, 3) := by decide +kernel
theorem dX12_slight_51 : decode cX12_slight 51 = .ok (.goto 16, 3) := by decide +kernel
theorem dX12_slight_54 : decode cX12_slight 54 = .ok (.aload_n 0, 1) := by decide +kernel
theorem dX12_slight_55 : decode cX12_slight 55 = .ok (.getfield 13, 3) := by decide +kernel
theorem dX12_slight_58 : decode cX12_slight 58 = .ok (.bipush 14, 2) := by decide +kernel
theorem dX12_slight_60 : decode cX12_slight 60 = .ok (.iconst 2, 1) := by decide +kernel
theorem dX12_slight_61 : decode cX12_slight 61 = .ok (.iload_n 1, 1) := by decide +kernel
theorem dX12_slight_62 : decode cX12_slight 62 = .ok (.imul, 1) := by decide +kernel
theorem dX12_slight_63 : decode cX12_slight 63 = .ok (.iadd, 1) := by decide +kernel
theorem dX12_slight_64 : decode cX12_slight 64 = .ok (.iload_n 2, 1) := by decide +kernel
theorem dX12_slight_65 : decode cX12_slight 65 = .ok (.iadd, 1) := by decide +kernel
theorem dX12_slight_66 : decode cX12_slight 66 = .ok (.iaload, 1) := by decide +kernel
theorem dX12_slight_67 : decode cX12_slight 67 = .ok (.ireturn, 1) := by decide +kernel
theorem dX12_heat_0 : decode cX12_heat 0 = .ok (.aload_n 0, 1) := by decide +kernel
theorem dX12_heat_1 : decode cX12_heat 1 = .ok (.iconst 0, 1) := by decide +kernel
theorem dX12_heat_2 : decode cX12_heat 2 = .ok (.putfield 3, 3) := by decide +kernel
theorem dX12_heat_5 : decode cX12_heat 5 = .ok (.aload_n 0, 1) := by decide +kernel
theorem dX12_heat_6 : decode cX12_heat 6 = .ok (.iload_n 1, 1) := by decide +kernel
theorem dX12_heat_7 : decode cX12_heat 7 = .ok (.iconst 0, 1) := by decide +kernel
theorem dX12_heat_8 : decode cX12_heat 8 = .ok (.iconst 3, 1) := by decide +kernel
theorem dX12_heat_9 : decode cX12_heat 9 = .ok (.invokestatic 84, 3) := by decide +kernel
theorem dX12_heat_12 : decode cX12_heat 12 = .ok (.ifCond .ne 7, 3) := by decide +kernel
theorem dX12_heat_15 : decode cX12_heat 15 = .ok (.iconst 1, 1) := by decide +kernel
theorem dX12_heat_16 : decode cX12_heat 16 = .ok (.goto 4, 3) := by decide +kernel
theorem dX12_heat_19 : decode cX12_heat 19 = .ok (.iconst 0, 1) := by decide +kernel
theorem dX12_heat_20 : decode cX12_heat 20 = .ok (.iconst 1, 1) := by decide +kernel
theorem dX12_heat_21 : decode cX12_heat 21 = .ok (.invokevirtual 269, 3) := by decide +kernel
theorem dX12_heat_24 : decode cX12_heat 24 = .ok (.ifCond .eq 7, 3) := by decide +kernel
theorem dX12_heat_27 : decode cX12_heat 27 = .ok (.iconst 0, 1) := by decide +kernel
theorem dX12_heat_28 : decode cX12_heat 28 = .ok (.goto 12, 3) := by decide +kernel
theorem dX12_heat_31 : decode cX12_heat 31 = .ok (.aload_n 0, 1) := by decide +kernel
theorem dX12_heat_32 : decode cX12_heat 32 = .ok (.getfield 13, 3) := by decide +kernel
theorem dX12_heat_35 : decode cX12_heat 35 = .ok (.bipush 10, 2) := by decide +kernel
theorem dX12_heat_37 : decode cX12_heat 37 = .ok (.iload_n 1, 1) := by decide +kernel
theorem dX12_heat_38 : decode cX12_heat 38 = .ok (.iadd, 1) := by decide +kernel
theorem dX12_heat_39 : decode cX12_heat 39 = .ok (.iaload, 1) := by decide +kernel
theorem dX12_heat_40 : decode cX12_heat 40 = .ok (.ireturn, 1) := by decide +kernel
theorem dX12_tells_0 : decode cX12_tells 0 = .ok (.sipush 239, 3) := by decide +kernel
theorem dX12_tells_3 : decode cX12_tells 3 = .ok (.istore 4, 2) := by decide +kernel
theorem dX12_tells_5 : decode cX12_tells 5 = .ok (.iload 4, 2) := by decide +kernel
theorem dX12_tells_7 : decode cX12_tells 7 = .ok (.iconst 4, 1) := by decide +kernel
theorem dX12_tells_8 : decode cX12_tells 8 = .ok (.if_icmp .lt 31, 3) := by decide +kernel
theorem dX12_tells_11 : decode cX12_tells 11 = .ok (.aload_n 0, 1) := by decide +kernel
theorem dX12_tells_12 : decode cX12_tells 12 = .ok (.getfield 13, 3) := by decide +kernel
theorem dX12_tells_15 : decode cX12_tells 15 = .ok (.bipush 124, 2) := by decide +kernel
theorem dX12_tells_17 : decode cX12_tells 17 = .ok (.iload 4, 2) := by decide +kernel
theorem dX12_tells_19 : decode cX12_tells 19 = .ok (.iadd, 1) := by decide +kernel
theorem dX12_tells_20 : decode cX12_tells 20 = .ok (.aload_n 0, 1) := by decide +kernel
theorem dX12_tells_21 : decode cX12_tells 21 = .ok (.getfield 13, 3) := by decide +kernel
theorem dX12_tells_24 : decode cX12_tells 24 = .ok (.bipush 124, 2) := by decide +kernel
theorem dX12_tells_26 : decode cX12_tells 26 = .ok (.iload 4, 2) := by decide +kernel
theorem dX12_tells_28 : decode cX12_tells 28 = .ok (.iadd, 1) := by decide +kernel
theorem dX12_tells_29 : decode cX12_tells 29 = .ok (.iconst 4, 1) := by decide +kernel
theorem dX12_tells_30 : decode cX12_tells 30 = .ok (.isub, 1) := by decide +kernel
theorem dX12_tells_31 : decode cX12_tells 31 = .ok (.iaload, 1) := by decide +kernel
theorem dX12_tells_32 : decode cX12_tells 32 = .ok (.iastore, 1) := by decide +kernel
theorem dX12_tells_33 : decode cX12_tells 33 = .ok (.iinc 4 (-1), 3) := by decide +kernel
theorem dX12_tells_36 : decode cX12_tells 36 = .ok (.goto (-31), 3) := by decide +kernel
theorem dX12_tells_39 : decode cX12_tells 39 = .ok (.aload_n 0, 1) := by decide +kernel
theorem dX12_tells_40 : decode cX12_tells 40 = .ok (.getfield 13, 3) := by decide +kernel
theorem dX12_tells_43 : decode cX12_tells 43 = .ok (.bipush 124, 2) := by decide +kernel
theorem dX12_tells_45 : decode cX12_tells 45 = .ok (.aload_n 0, 1) := by decide +kernel
theorem dX12_tells_46 : decode cX12_tells 46 = .ok (.getfield 13, 3) := by decide +kernel
theorem dX12_tells_49 : decode cX12_tells 49 = .ok (.iconst 4, 1) := by decide +kernel
theorem dX12_tells_50 : decode cX12_tells 50 = .ok (.iaload, 1) := by decide +kernel
theorem dX12_tells_51 : decode cX12_tells 51 = .ok (.iastore, 1) := by decide +kernel
theorem dX12_tells_52 : decode cX12_tells 52 = .ok (.aload_n 0, 1) := by decide +kernel
theorem dX12_tells_53 : decode cX12_tells 53 = .ok (.getfield 13, 3) := by decide +kernel
theorem dX12_tells_56 : decode cX12_tells 56 = .ok (.bipush 125, 2) := by decide +kernel
theorem dX12_tells_58 : decode cX12_tells 58 = .ok (.iload_n 1, 1) := by decide +kernel
theorem dX12_tells_59 : decode cX12_tells 59 = .ok (.iastore, 1) := by decide +kernel
theorem dX12_tells_60 : decode cX12_tells 60 = .ok (.aload_n 0, 1) := by decide +kernel
theorem dX12_tells_61 : decode cX12_tells 61 = .ok (.getfield 13, 3) := by decide +kernel
theorem dX12_tells_64 : decode cX12_tells 64 = .ok (.bipush 126, 2) := by decide +kernel
theorem dX12_tells_66 : decode cX12_tells 66 = .ok (.iload_n 2, 1) := by decide +kernel
theorem dX12_tells_67 : decode cX12_tells 67 = .ok (.iastore, 1) := by decide +kernel
theorem dX12_tells_68 : decode cX12_tells 68 = .ok (.aload_n 0, 1) := by decide +kernel
theorem dX12_tells_69 : decode cX12_tells 69 = .ok (.getfield 13, 3) := by decide +kernel
theorem dX12_tells_72 : decode cX12_tells 72 = .ok (.bipush 127, 2) := by decide +kernel
theorem dX12_tells_74 : decode cX12_tells 74 = .ok (.iload_n 3, 1) := by decide +kernel
theorem dX12_tells_75 : decode cX12_tells 75 = .ok (.iastore, 1) := by decide +kernel
theorem dX12_tells_76 : decode cX12_tells 76 = .ok (.aload_n 0, 1) := by decide +kernel
theorem dX12_tells_77 : decode cX12_tells 77 = .ok (.getfield 13, 3) := by decide +kernel
theorem dX12_tells_80 : decode cX12_tells 80 = .ok (.bipush 8, 2) := by decide +kernel
theorem dX12_tells_82 : decode cX12_tells 82 = .ok (.bipush 60, 2) := by decide +kernel
theorem dX12_tells_84 : decode cX12_tells 84 = .ok (.aload_n 0, 1) := by decide +kernel
theorem dX12_tells_85 : decode cX12_tells 85 = .ok (.getfield 13, 3) := by decide +kernel
theorem dX12_tells_88 : decode cX12_tells 88 = .ok (.bipush 8, 2) := by decide +kernel
theorem dX12_tells_90 : decode cX12_tells 90 = .ok (.iaload, 1) := by decide +kernel
theorem dX12_tells_91 : decode cX12_tells 91 = .ok (.iconst 1, 1) := by decide +kernel
theorem dX12_tells_92 : decode cX12_tells 92 = .ok (.iadd, 1) := by decide +kernel
theorem dX12_tells_93 : decode cX12_tells 93 = .ok (.invokestatic 330, 3) := by decide +kernel
theorem dX12_tells_96 : decode cX12_tells 96 = .ok (.iastore, 1) := by decide +kernel
theorem dX12_tells_97 : decode cX12_tells 97 = .ok (.return_, 1) := by decide +kernel
theorem dX12_adds_0 : decode cX12_adds 0 = .ok (.aload_n 0, 1) := by decide +kernel
theorem dX12_adds_1 : decode cX12_adds 1 = .ok (.getfield 13, 3) := by decide +kernel
theorem dX12_adds_4 : decode cX12_adds 4 = .ok (.iload_n 1, 1) := by decide +kernel
theorem dX12_adds_5 : decode cX12_adds 5 = .ok (.iload_n 3, 1) := by decide +kernel
theorem dX12_adds_6 : decode cX12_adds 6 = .ok (.aload_n 0, 1) := by decide +kernel
theorem dX12_adds_7 : decode cX12_adds 7 = .ok (.getfield 13, 3) := by decide +kernel
theorem dX12_adds_10 : decode cX12_adds 10 = .ok (.iload_n 1, 1) := by decide +kernel
theorem dX12_adds_11 : decode cX12_adds 11 = .ok (.iaload, 1) := by decide +kernel
theorem dX12_adds_12 : decode cX12_adds 12 = .ok (.iload_n 2, 1) := by decide +kernel
theorem dX12_adds_13 : decode cX12_adds 13 = .ok (.iadd, 1) := by decide +kernel
theorem dX12_adds_14 : decode cX12_adds 14 = .ok (.invokestatic 330, 3) := by decide +kernel
theorem dX12_adds_17 : decode cX12_adds 17 = .ok (.iastore, 1) := by decide +kernel
theorem dX12_adds_18 : decode cX12_adds 18 = .ok (.return_, 1) := by decide +kernel
theorem dX12_ages_0 : decode cX12_ages 0 = .ok (.aload_n 0, 1) := by decide +kernel
theorem dX12_ages_1 : decode cX12_ages 1 = .ok (.iload_n 1, 1) := by decide +kernel
theorem dX12_ages_2 : decode cX12_ages 2 = .ok (.invokevirtual 76, 3) := by decide +kernel
theorem dX12_ages_5 : decode cX12_ages 5 = .ok (.ifCond .eq 5, 3) := by decide +kernel
theorem dX12_ages_8 : decode cX12_ages 8 = .ok (.iconst 0, 1) := by decide +kernel
theorem dX12_ages_9 : decode cX12_ages 9 = .ok (.ireturn, 1) := by decide +kernel
theorem dX12_ages_10 : decode cX12_ages 10 = .ok (.aload_n 0, 1) := by decide +kernel
theorem dX12_ages_11 : decode cX12_ages 11 = .ok (.iload_n 1, 1) := by decide +kernel
theorem dX12_ages_12 : decode cX12_ages 12 = .ok (.iconst 4, 1) := by decide +kernel
theorem dX12_ages_13 : decode cX12_ages 13 = .ok (.invokestatic 67, 3) := by decide +kernel
theorem dX12_ages_16 : decode cX12_ages 16 = .ok (.aload_n 0, 1) := by decide +kernel
theorem dX12_ages_17 : decode cX12_ages 17 = .ok (.iconst 0, 1) := by decide +kernel
theorem dX12_ages_18 : decode cX12_ages 18 = .ok (.iload_n 1, 1) := by decide +kernel
theorem dX12_ages_19 : decode cX12_ages 19 = .ok (.invokevirtual 318, 3) := by decide +kernel
theorem dX12_ages_22 : decode cX12_ages 22 = .ok (.sipush 999, 3) := by decide +kernel
theorem dX12_ages_25 : decode cX12_ages 25 = .ok (.invokevirtual 333, 3) := by decide +kernel
theorem dX12_ages_28 : decode cX12_ages 28 = .ok (.aload_n 0, 1) := by decide +kernel
theorem dX12_ages_29 : decode cX12_ages 29 = .ok (.getfield 13, 3) := by decide +kernel
theorem dX12_ages_32 : decode cX12_ages 32 = .ok (.iload_n 1, 1) := by decide +kernel
theorem dX12_ages_33 : decode cX12_ages 33 = .ok (.iconst 4, 1) := by decide +kernel
theorem dX12_ages_34 : decode cX12_ages 34 = .ok (.invokestatic 67, 3) := by decide +kernel
theorem dX12_ages_37 : decode cX12_ages 37 = .ok (.iconst 0, 1) := by decide +kernel
theorem dX12_ages_38 : decode cX12_ages 38 = .ok (.aload_n 0, 1) := by decide +kernel
theorem dX12_ages_39 : decode cX12_ages 39 = .ok (.iload_n 1, 1) := by decide +kernel
theorem dX12_ages_40 : decode cX12_ages 40 = .ok (.iconst 4, 1) := by decide +kernel
theorem dX12_ages_41 : decode cX12_ages 41 = .ok (.invokevirtual 70, 3) := by decide +kernel
theorem dX12_ages_44 : decode cX12_ages 44 = .ok (.iconst 0, 1) := by decide +kernel
theorem dX12_ages_45 : decode cX12_ages 45 = .ok (.aload_n 0, 1) := by decide +kernel
theorem dX12_ages_46 : decode cX12_ages 46 = .ok (.iconst 1, 1) := by decide +kernel
theorem dX12_ages_47 : decode cX12_ages 47 = .ok (.iload_n 1, 1) := by decide +kernel
theorem dX12_ages_48 : decode cX12_ages 48 = .ok (.invokevirtual 318, 3) := by decide +kernel
theorem dX12_ages_51 : decode cX12_ages 51 = .ok (.aload_n 0, 1) := by decide +kernel
theorem dX12_ages_52 : decode cX12_ages 52 = .ok (.iconst 2, 1) := by decide +kernel
theorem dX12_ages_53 : decode cX12_ages 53 = .ok (.iload_n 1, 1) := by decide +kernel
theorem dX12_ages_54 : decode cX12_ages 54 = .ok (.invokevirtual 318, 3) := by decide +kernel
theorem dX12_ages_57 : decode cX12_ages 57 = .ok (.isub, 1) := by decide +kernel
theorem dX12_ages_58 : decode cX12_ages 58 = .ok (.invokestatic 310, 3) := by decide +kernel
theorem dX12_ages_61 : decode cX12_ages 61 = .ok (.isub, 1) := by decide +kernel
theorem dX12_ages_62 : decode cX12_ages 62 = .ok (.invokestatic 310, 3) := by decide +kernel
theorem dX12_ages_65 : decode cX12_ages 65 = .ok (.iastore, 1) := by decide +kernel
theorem dX12_ages_66 : decode cX12_ages 66 = .ok (.aload_n 0, 1) := by decide +kernel
theorem dX12_ages_67 : decode cX12_ages 67 = .ok (.iload_n 1, 1) := by decide +kernel
theorem dX12_ages_68 : decode cX12_ages 68 = .ok (.iconst 3, 1) := by decide +kernel
theorem dX12_ages_69 : decode cX12_ages 69 = .ok (.invokestatic 67, 3) := by decide +kernel
theorem dX12_ages_72 : decode cX12_ages 72 = .ok (.iconst 1, 1) := by decide +kernel
theorem dX12_ages_73 : decode cX12_ages 73 = .ok (.bipush 99, 2) := by decide +kernel
theorem dX12_ages_75 : decode cX12_ages 75 = .ok (.invokevirtual 333, 3) := by decide +kernel
theorem dX12_ages_78 : decode cX12_ages 78 = .ok (.aload_n 0, 1) := by decide +kernel
theorem dX12_ages_79 : decode cX12_ages 79 = .ok (.iload_n 1, 1) := by decide +kernel
theorem dX12_ages_80 : decode cX12_ages 80 = .ok (.iconst 4, 1) := by decide +kernel
theorem dX12_ages_81 : decode cX12_ages 81 = .ok (.invokevirtual 70, 3) := by decide +kernel
theorem dX12_ages_84 : decode cX12_ages 84 = .ok (.ifCond .le 5, 3) := by decide +kernel
theorem dX12_ages_87 : decode cX12_ages 87 = .ok (.iconst 0, 1) := by decide +kernel
theorem dX12_ages_88 : decode cX12_ages 88 = .ok (.ireturn, 1) := by decide +kernel
theorem dX12_ages_89 : decode cX12_ages 89 = .ok (.aload_n 0, 1) := by decide +kernel
theorem dX12_ages_90 : decode cX12_ages 90 = .ok (.getfield 13, 3) := by decide +kernel
theorem dX12_ages_93 : decode cX12_ages 93 = .ok (.iload_n 1, 1) := by decide +kernel
theorem dX12_ages_94 : decode cX12_ages 94 = .ok (.bipush 6, 2) := by decide +kernel
theorem dX12_ages_96 : decode cX12_ages 96 = .ok (.invokestatic 67, 3) := by decide +kernel
theorem dX12_ages_99 : decode cX12_ages 99 = .ok (.iconst 1, 1) := by decide +kernel
theorem dX12_ages_100 : decode cX12_ages 100 = .ok (.iastore, 1) := by decide +kernel
theorem dX12_ages_101 : decode cX12_ages 101 = .ok (.aload_n 0, 1) := by decide +kernel
theorem dX12_ages_102 : decode cX12_ages 102 = .ok (.iload_n 1, 1) := by decide +kernel
theorem dX12_ages_103 : decode cX12_ages 103 = .ok (.iconst 0, 1) := by decide +kernel
theorem dX12_ages_104 : decode cX12_ages 104 = .ok (.iconst 0, 1) := by decide +kernel
theorem dX12_ages_105 : decode cX12_ages 105 = .ok (.invokevirtual 337, 3) := by decide +kernel
theorem dX12_ages_108 : decode cX12_ages 108 = .ok (.iconst 1, 1) := by decide +kernel
theorem dX12_ages_109 : decode cX12_ages 109 = .ok (.ireturn, 1) := by decide +kernel
theorem dX12_eats_0 : decode cX12_eats 0 = .ok (.aload_n 0, 1) := by decide +kernel
theorem dX12_eats_1 : decode cX12_eats 1 = .ok (.iload_n 1, 1) := by decide +kernel
theorem dX12_eats_2 : decode cX12_eats 2 = .ok (.iconst 2, 1) := by decide +kernel
theorem dX12_eats_3 : decode cX12_eats 3 = .ok (.invokevirtual 272, 3) := by decide +kernel
theorem dX12_eats_6 : decode cX12_eats 6 = .ok (.aload_n 0, 1) := by decide +kernel
theorem dX12_eats_7 : decode cX12_eats 7 = .ok (.iload_n 1, 1) := by decide +kernel
theorem dX12_eats_8 : decode cX12_eats 8 = .ok (.iconst 1, 1) := by decide +kernel
theorem dX12_eats_9 : decode cX12_eats 9 = .ok (.invokevirtual 272, 3) := by decide +kernel
theorem dX12_eats_12 : decode cX12_eats 12 = .ok (.if_icmp .lt 7, 3) := by decide +kernel
theorem dX12_eats_15 : decode cX12_eats 15 = .ok (.iconst 1, 1) := by decide +kernel
theorem dX12_eats_16 : decode cX12_eats 16 = .ok (.goto 4, 3) := by decide +kernel
theorem dX12_eats_19 : decode cX12_eats 19 = .ok (.iconst 0, 1) := by decide +kernel
theorem dX12_eats_20 : decode cX12_eats 20 = .ok (.istore_n 2, 1) := by decide +kernel
theorem dX12_eats_21 : decode cX12_eats 21 = .ok (.aload_n 0, 1) := by decide +kernel
theorem dX12_eats_22 : decode cX12_eats 22 = .ok (.getfield 13, 3) := by decide +kernel
theorem dX12_eats_25 : decode cX12_eats 25 = .ok (.iload_n 1, 1) := by decide +kernel
theorem dX12_eats_26 : decode cX12_eats 26 = .ok (.iconst 2, 1) := by decide +kernel
theorem dX12_eats_27 : decode cX12_eats 27 = .ok (.invokestatic 63, 3) := by decide +kernel
theorem dX12_eats_30 : decode cX12_eats 30 = .ok (.iload_n 2, 1) := by decide +kernel
theorem dX12_eats_31 : decode cX12_eats 31 = .ok (.ifCond .eq 19, 3) := by decide +kernel
theorem dX12_eats_34 : decode cX12_eats 34 = .ok (.aload_n 0, 1) := by decide +kernel
theorem dX12_eats_35 : decode cX12_eats 35 = .ok (.iload_n 1, 1) := by decide +kernel
theorem dX12_eats_36 : decode cX12_eats 36 = .ok (.iconst 2, 1) := by decide +kernel
theorem dX12_eats_37 : decode cX12_eats 37 = .ok (.invokevirtual 272, 3) := by decide +kernel
theorem dX12_eats_40 : decode cX12_eats 40 = .ok (.aload_n 0, 1) := by decide +kernel
theorem dX12_eats_41 : decode cX12_eats 41 = .ok (.iload_n 1, 1) := by decide +kernel
theorem dX12_eats_42 : decode cX12_eats 42 = .ok (.iconst 1, 1) := by decide +kernel
theorem dX12_eats_43 : decode cX12_eats 43 = .ok (.invokevirtual 272, 3) := by decide +kernel
theorem dX12_eats_46 : decode cX12_eats 46 = .ok (.isub, 1) := by decide +kernel
theorem dX12_eats_47 : decode cX12_eats 47 = .ok (.goto 4, 3) := by decide +kernel
theorem dX12_eats_50 : decode cX12_eats 50 = .ok (.iconst 0, 1) := by decide +kernel
theorem dX12_eats_51 : decode cX12_eats 51 = .ok (.iastore, 1) := by decide +kernel
theorem dX12_eats_52 : decode cX12_eats 52 = .ok (.iload_n 2, 1) := by decide +kernel
theorem dX12_eats_53 : decode cX12_eats 53 = .ok (.ifCond .ne 15, 3) := by decide +kernel
theorem dX12_eats_56 : decode cX12_eats 56 = .ok (.aload_n 0, 1) := by decide +kernel
theorem dX12_eats_57 : decode cX12_eats 57 = .ok (.iload_n 1, 1) := by decide +kernel
theorem dX12_eats_58 : decode cX12_eats 58 = .ok (.iconst 3, 1) := by decide +kernel
theorem dX12_eats_59 : decode cX12_eats 59 = .ok (.invokestatic 63, 3) := by decide +kernel
theorem dX12_eats_62 : decode cX12_eats 62 = .ok (.iconst 1, 1) := by decide +kernel
theorem dX12_eats_63 : decode cX12_eats 63 = .ok (.bipush 99, 2) := by decide +kernel
theorem dX12_eats_65 : decode cX12_eats 65 = .ok (.invokevirtual 333, 3) := by decide +kernel
theorem dX12_eats_68 : decode cX12_eats 68 = .ok (.return_, 1) := by decide +kernel
theorem dX12_maybeKissed_0 : decode cX12_maybeKissed 0 = .ok (.aload_n 0, 1) := by decide +kernel
theorem dX12_maybeKissed_1 : decode cX12_maybeKissed 1 = .ok (.bipush 100, 2) := by decide +kernel
theorem dX12_maybeKissed_3 : decode cX12_maybeKissed 3 = .ok (.invokevirtual 340, 3) := by decide +kernel
theorem dX12_maybeKissed_6 : decode cX12_maybeKissed 6 = .ok (.aload_n 0, 1) := by decide +kernel
theorem dX12_maybeKissed_7 : decode cX12_maybeKissed 7 = .ok (.getfield 13, 3) := by decide +kernel
theorem dX12_maybeKissed_10 : decode cX12_maybeKissed 10 = .ok (.bipush 7, 2) := by decide +kernel
theorem dX12_maybeKissed_12 : decode cX12_maybeKissed 12 = .ok (.iaload, 1) := by decide +kernel
theorem dX12_maybeKissed_13 : decode cX12_maybeKissed 13 = .ok (.if_icmp .ge 7, 3) := by decide +kernel
theorem dX12_maybeKissed_16 : decode cX12_maybeKissed 16 = .ok (.iconst 1, 1) := by decide +kernel
theorem dX12_maybeKissed_17 : decode cX12_maybeKissed 17 = .ok (.goto 4, 3) := by decide +kernel
theorem dX12_maybeKissed_20 : decode cX12_maybeKissed 20 = .ok (.iconst 0, 1) := by decide +kernel
theorem dX12_maybeKissed_21 : decode cX12_maybeKissed 21 = .ok (.istore_n 1, 1) := by decide +kernel
theorem dX12_maybeKissed_22 : decode cX12_maybeKissed 22 = .ok (.aload_n 0, 1) := by decide +kernel
theorem dX12_maybeKissed_23 : decode cX12_maybeKissed 23 = .ok (.invokevirtual 291, 3) := by decide +kernel
theorem dX12_maybeKissed_26 : decode cX12_maybeKissed 26 = .ok (.istore_n 2, 1) := by decide +kernel
theorem dX12_maybeKissed_27 : decode cX12_maybeKissed 27 = .ok (.iload_n 1, 1) := by decide +kernel
theorem dX12_maybeKissed_28 : decode cX12_maybeKissed 28 = .ok (.ifCond .eq 7, 3) := by decide +kernel
theorem dX12_maybeKissed_31 : decode cX12_maybeKissed 31 = .ok (.iload_n 2, 1) := by decide +kernel
theorem dX12_maybeKissed_32 : decode cX12_maybeKissed 32 = .ok (.ifCond .ne 4, 3) := by decide +kernel
theorem dX12_maybeKissed_35 : decode cX12_maybeKissed 35 = .ok (.return_, 1) := by decide +kernel
theorem dX12_maybeKissed_36 : decode cX12_maybeKissed 36 = .ok (.aload_n 0, 1) := by decide +kernel
theorem dX12_maybeKissed_37 : decode cX12_maybeKissed 37 = .ok (.iload_n 2, 1) := by decide +kernel
theorem dX12_maybeKissed_38 : decode cX12_maybeKissed 38 = .ok (.invokestatic 343, 3) := by decide +kernel
theorem dX12_maybeKissed_41 : decode cX12_maybeKissed 41 = .ok (.invokevirtual 340, 3) := by decide +kernel
theorem dX12_maybeKissed_44 : decode cX12_maybeKissed 44 = .ok (.istore_n 3, 1) := by decide +kernel
theorem dX12_maybeKissed_45 : decode cX12_maybeKissed 45 = .ok (.iconst 0, 1) := by decide +kernel
theorem dX12_maybeKissed_46 : decode cX12_maybeKissed 46 = .ok (.istore 4, 2) := by decide +kernel
theorem dX12_maybeKissed_48 : decode cX12_maybeKissed 48 = .ok (.iload_n 2, 1) := by decide +kernel
theorem dX12_maybeKissed_49 : decode cX12_maybeKissed 49 = .ok (.iload 4, 2) := by decide +kernel
theorem dX12_maybeKissed_51 : decode cX12_maybeKissed 51 = .ok (.invokestatic 80, 3) := by decide +kernel
theorem dX12_maybeKissed_54 : decode cX12_maybeKissed 54 = .ok (.ifCond .eq 7, 3) := by decide +kernel
theorem dX12_maybeKissed_57 : decode cX12_maybeKissed 57 = .ok (.iload_n 3, 1) := by decide +kernel
theorem dX12_maybeKissed_58 : decode cX12_maybeKissed 58 = .ok (.ifCond .le 26, 3) := by decide +kernel
theorem dX12_maybeKissed_61 : decode cX12_maybeKissed 61 = .ok (.iload_n 3, 1) := by decide +kernel
theorem dX12_maybeKissed_62 : decode cX12_maybeKissed 62 = .ok (.iload_n 2, 1) := by decide +kernel
theorem dX12_maybeKissed_63 : decode cX12_maybeKissed 63 = .ok (.iload 4, 2) := by decide +kernel
theorem dX12_maybeKissed_65 : decode cX12_maybeKissed 65 = .ok (.invokestatic 80, 3) := by decide +kernel
theorem dX12_maybeKissed_68 : decode cX12_maybeKissed 68 = .ok (.ifCond .eq 7, 3) := by decide +kernel
theorem dX12_maybeKissed_71 : decode cX12_maybeKissed 71 = .ok (.iconst 1, 1) := by decide +kernel
theorem dX12_maybeKissed_72 : decode cX12_maybeKissed 72 = .ok (.goto 4, 3) := by decide +kernel
theorem dX12_maybeKissed_75 : decode cX12_maybeKissed 75 = .ok (.iconst 0, 1) := by decide +kernel
theorem dX12_maybeKissed_76 : decode cX12_maybeKissed 76 = .ok (.isub, 1) := by decide +kernel
theorem dX12_maybeKissed_77 : decode cX12_maybeKissed 77 = .ok (.istore_n 3, 1) := by decide +kernel
theorem dX12_maybeKissed_78 : decode cX12_maybeKissed 78 = .ok (.iinc 4 1, 3) := by decide +kernel
theorem dX12_maybeKissed_81 : decode cX12_maybeKissed 81 = .ok (.goto (-33), 3) := by decide +kernel
theorem dX12_maybeKissed_84 : decode cX12_maybeKissed 84 = .ok (.aload_n 0, 1) := by decide +kernel
theorem dX12_maybeKissed_85 : decode cX12_maybeKissed 85 = .ok (.iload 4, 2) := by decide +kernel
theorem dX12_maybeKissed_87 : decode cX12_maybeKissed 87 = .ok (.iconst 4, 1) := by decide +kernel
theorem dX12_maybeKissed_88 : decode cX12_maybeKissed 88 = .ok (.invokevirtual 70, 3) := by decide +kernel
theorem dX12_maybeKissed_91 : decode cX12_maybeKissed 91 = .ok (.iconst 1, 1) := by decide +kernel
theorem dX12_maybeKissed_92 : decode cX12_maybeKissed 92 = .ok (.iadd, 1) := by decide +kernel
theorem dX12_maybeKissed_93 : decode cX12_maybeKissed 93 = .ok (.iconst 2, 1) := by decide +kernel
theorem dX12_maybeKissed_94 : decode cX12_maybeKissed 94 = .ok (.idiv, 1) := by decide +kernel
theorem dX12_maybeKissed_95 : decode cX12_maybeKissed 95 = .ok (.istore 5, 2) := by decide +kernel
theorem dX12_maybeKissed_97 : decode cX12_maybeKissed 97 = .ok (.aload_n 0, 1) := by decide +kernel
theorem dX12_maybeKissed_98 : decode cX12_maybeKissed 98 = .ok (.getfield 13, 3) := by decide +kernel
theorem dX12_maybeKissed_101 : decode cX12_maybeKissed 101 = .ok (.iload 4, 2) := by decide +kernel
theorem dX12_maybeKissed_103 : decode cX12_maybeKissed 103 = .ok (.iconst 4, 1) := by decide +kernel
theorem dX12_maybeKissed_104 : decode cX12_maybeKissed 104 = .ok (.invokestatic 67, 3) := by decide +kernel
theorem dX12_maybeKissed_107 : decode cX12_maybeKissed 107 = .ok (.dup2, 1) := by decide +kernel
theorem dX12_maybeKissed_108 : decode cX12_maybeKissed 108 = .ok (.iaload, 1) := by decide +kernel
theorem dX12_maybeKissed_109 : decode cX12_maybeKissed 109 = .ok (.iload 5, 2) := by decide +kernel
theorem dX12_maybeKissed_111 : decode cX12_maybeKissed 111 = .ok (.isub, 1) := by decide +kernel
theorem dX12_maybeKissed_112 : decode cX12_maybeKissed 112 = .ok (.iastore, 1) := by decide +kernel
theorem dX12_maybeKissed_113 : decode cX12_maybeKissed 113 = .ok (.aload_n 0, 1) := by decide +kernel
theorem dX12_maybeKissed_114 : decode cX12_maybeKissed 114 = .ok (.iload 4, 2) := by decide +kernel
theorem dX12_maybeKissed_116 : decode cX12_maybeKissed 116 = .ok (.iconst 4, 1) := by decide +kernel
theorem dX12_maybeKissed_117 : decode cX12_maybeKissed 117 = .ok (.iload 5, 2) := by decide +kernel
theorem dX12_maybeKissed_119 : decode cX12_maybeKissed 119 = .ok (.invokevirtual 337, 3) := by decide +kernel
theorem dX12_maybeKissed_122 : decode cX12_maybeKissed 122 = .ok (.return_, 1) := by decide +kernel
theorem dX12_oneSeason_0 : decode cX12_oneSeason 0 = .ok (.iconst 0, 1) := by decide +kernel
theorem dX12_oneSeason_1 : decode cX12_oneSeason 1 = .ok (.istore_n 2, 1) := by decide +kernel
theorem dX12_oneSeason_2 : decode cX12_oneSeason 2 = .ok (.iconst 0, 1) := by decide +kernel
theorem dX12_oneSeason_3 : decode cX12_oneSeason 3 = .ok (.istore_n 3, 1) := by decide +kernel
theorem dX12_oneSeason_4 : decode cX12_oneSeason 4 = .ok (.iload_n 3, 1) := by decide +kernel
theorem dX12_oneSeason_5 : decode cX12_oneSeason 5 = .ok (.aload_n 0, 1) := by decide +kernel
theorem dX12_oneSeason_6 : decode cX12_oneSeason 6 = .ok (.invokevirtual 73, 3) := by decide +kernel
theorem dX12_oneSeason_9 : decode cX12_oneSeason 9 = .ok (.if_icmp .ge 25, 3) := by decide +kernel
theorem dX12_oneSeason_12 : decode cX12_oneSeason 12 = .ok (.iload_n 2, 1) := by decide +kernel
theorem dX12_oneSeason_13 : decode cX12_oneSeason 13 = .ok (.aload_n 0, 1) := by decide +kernel
theorem dX12_oneSeason_14 : decode cX12_oneSeason 14 = .ok (.iload_n 3, 1) := by decide +kernel
theorem dX12_oneSeason_15 : decode cX12_oneSeason 15 = .ok (.invokevirtual 348, 3) := by decide +kernel
theorem dX12_oneSeason_18 : decode cX12_oneSeason 18 = .ok (.ifCond .eq 7, 3) := by decide +kernel
theorem dX12_oneSeason_21 : decode cX12_oneSeason 21 = .ok (.iconst 1, 1) := by decide +kernel
theorem dX12_oneSeason_22 : decode cX12_oneSeason 22 = .ok (.goto 4, 3) := by decide +kernel
theorem dX12_oneSeason_25 : decode cX12_oneSeason 25 = .ok (.iconst 0, 1) := by decide +kernel
theorem dX12_oneSeason_26 : decode cX12_oneSeason 26 = .ok (.iadd, 1) := by decide +kernel
theorem dX12_oneSeason_27 : decode cX12_oneSeason 27 = .ok (.istore_n 2, 1) := by decide +kernel
theorem dX12_oneSeason_28 : decode cX12_oneSeason 28 = .ok (.iinc 3 1, 3) := by decide +kernel
theorem dX12_oneSeason_31 : decode cX12_oneSeason 31 = .ok (.goto (-27), 3) := by decide +kernel
theorem dX12_oneSeason_34 : decode cX12_oneSeason 34 = .ok (.iconst 0, 1) := by decide +kernel
theorem dX12_oneSeason_35 : decode cX12_oneSeason 35 = .ok (.istore_n 3, 1) := by decide +kernel
theorem dX12_oneSeason_36 : decode cX12_oneSeason 36 = .ok (.iload_n 3, 1) := by decide +kernel
theorem dX12_oneSeason_37 : decode cX12_oneSeason 37 = .ok (.aload_n 0, 1) := by decide +kernel
theorem dX12_oneSeason_38 : decode cX12_oneSeason 38 = .ok (.invokevirtual 59, 3) := by decide +kernel
theorem dX12_oneSeason_41 : decode cX12_oneSeason 41 = .ok (.if_icmp .ge 14, 3) := by decide +kernel
theorem dX12_oneSeason_44 : decode cX12_oneSeason 44 = .ok (.aload_n 0, 1) := by decide +kernel
theorem dX12_oneSeason_45 : decode cX12_oneSeason 45 = .ok (.iload_n 3, 1) := by decide +kernel
theorem dX12_oneSeason_46 : decode cX12_oneSeason 46 = .ok (.invokevirtual 351, 3) := by decide +kernel
theorem dX12_oneSeason_49 : decode cX12_oneSeason 49 = .ok (.iinc 3 1, 3) := by decide +kernel
theorem dX12_oneSeason_52 : decode cX12_oneSeason 52 = .ok (.goto (-16), 3) := by decide +kernel
theorem dX12_oneSeason_55 : decode cX12_oneSeason 55 = .ok (.aload_n 0, 1) := by decide +kernel
theorem dX12_oneSeason_56 : decode cX12_oneSeason 56 = .ok (.getfield 13, 3) := by decide +kernel
theorem dX12_oneSeason_59 : decode cX12_oneSeason 59 = .ok (.iconst 5, 1) := by decide +kernel
theorem dX12_oneSeason_60 : decode cX12_oneSeason 60 = .ok (.iconst 0, 1) := by decide +kernel
theorem dX12_oneSeason_61 : decode cX12_oneSeason 61 = .ok (.aload_n 0, 1) := by decide +kernel
theorem dX12_oneSeason_62 : decode cX12_oneSeason 62 = .ok (.getfield 13, 3) := by decide +kernel
theorem dX12_oneSeason_65 : decode cX12_oneSeason 65 = .ok (.iconst 5, 1) := by decide +kernel
theorem dX12_oneSeason_66 : decode cX12_oneSeason 66 = .ok (.iaload, 1) := by decide +kernel
theorem dX12_oneSeason_67 : decode cX12_oneSeason 67 = .ok (.aload_n 0, 1) := by decide +kernel
theorem dX12_oneSeason_68 : decode cX12_oneSeason 68 = .ok (.invokevirtual 278, 3) := by decide +kernel
theorem dX12_oneSeason_71 : decode cX12_oneSeason 71 = .ok (.aload_n 0, 1) := by decide +kernel
theorem dX12_oneSeason_72 : decode cX12_oneSeason 72 = .ok (.getfield 13, 3) := by decide +kernel
theorem dX12_oneSeason_75 : decode cX12_oneSeason 75 = .ok (.bipush 6, 2) := by decide +kernel
theorem dX12_oneSeason_77 : decode cX12_oneSeason 77 = .ok (.iaload, 1) := by decide +kernel
theorem dX12_oneSeason_78 : decode cX12_oneSeason 78 = .ok (.iconst 1, 1) := by decide +kernel
theorem dX12_oneSeason_79 : decode cX12_oneSeason 79 = .ok (.if_icmp .ne 7, 3) := by decide +kernel
theorem dX12_oneSeason_82 : decode cX12_oneSeason 82 = .ok (.iconst 5, 1) := by decide +kernel
theorem dX12_oneSeason_83 : decode cX12_oneSeason 83 = .ok (.goto 4, 3) := by decide +kernel
theorem dX12_oneSeason_86 : decode cX12_oneSeason 86 = .ok (.iconst 1, 1) := by decide +kernel
theorem dX12_oneSeason_87 : decode cX12_oneSeason 87 = .ok (.imul, 1) := by decide +kernel
theorem dX12_oneSeason_88 : decode cX12_oneSeason 88 = .ok (.isub, 1) := by decide +kernel
theorem dX12_oneSeason_89 : decode cX12_oneSeason 89 = .ok (.invokestatic 310, 3) := by decide +kernel
theorem dX12_oneSeason_92 : decode cX12_oneSeason 92 = .ok (.iastore, 1) := by decide +kernel
theorem dX12_oneSeason_93 : decode cX12_oneSeason 93 = .ok (.iload_n 1, 1) := by decide +kernel
theorem dX12_oneSeason_94 : decode cX12_oneSeason 94 = .ok (.ifCond .ne 7, 3) := by decide +kernel
theorem dX12_oneSeason_97 : decode cX12_oneSeason 97 = .ok (.aload_n 0, 1) := by decide +kernel
theorem dX12_oneSeason_98 : decode cX12_oneSeason 98 = .ok (.invokevirtual 355, 3) := by decide +kernel
theorem dX12_oneSeason_101 : decode cX12_oneSeason 101 = .ok (.aload_n 0, 1) := by decide +kernel
theorem dX12_oneSeason_102 : decode cX12_oneSeason 102 = .ok (.iconst 4, 1) := by decide +kernel
theorem dX12_oneSeason_103 : decode cX12_oneSeason 103 = .ok (.iconst 1, 1) := by decide +kernel
theorem dX12_oneSeason_104 : decode cX12_oneSeason 104 = .ok (.sipush 9999, 3) := by decide +kernel
theorem dX12_oneSeason_107 : decode cX12_oneSeason 107 = .ok (.invokevirtual 333, 3) := by decide +kernel
theorem dX12_oneSeason_110 : decode cX12_oneSeason 110 = .ok (.iload_n 2, 1) := by decide +kernel
theorem dX12_oneSeason_111 : decode cX12_oneSeason 111 = .ok (.ireturn, 1) := by decide +kernel
theorem dX12_goesOn_0 : decode cX12_goesOn 0 = .ok (.iconst 0, 1) := by decide +kernel
theorem dX12_goesOn_1 : decode cX12_goesOn 1 = .ok (.istore_n 3, 1) := by decide +kernel
theorem dX12_goesOn_2 : decode cX12_goesOn 2 = .ok (.iconst 0, 1) := by decide +kernel
theorem dX12_goesOn_3 : decode cX12_goesOn 3 = .ok (.istore 4, 2) := by decide +kernel
theorem dX12_goesOn_5 : decode cX12_goesOn 5 = .ok (.iload 4, 2) := by decide +kernel
theorem dX12_goesOn_7 : decode cX12_goesOn 7 = .ok (.iload_n 1, 1) := by decide +kernel
theorem dX12_goesOn_8 : decode cX12_goesOn 8 = .ok (.if_icmp .ge 17, 3) := by decide +kernel
theorem dX12_goesOn_11 : decode cX12_goesOn 11 = .ok (.iload_n 3, 1) := by decide +kernel
theorem dX12_goesOn_12 : decode cX12_goesOn 12 = .ok (.aload_n 0, 1) := by decide +kernel
theorem dX12_goesOn_13 : decode cX12_goesOn 13 = .ok (.iload_n 2, 1) := by decide +kernel
theorem dX12_goesOn_14 : decode cX12_goesOn 14 = .ok (.invokevirtual 358, 3) := by decide +kernel
theorem dX12_goesOn_17 : decode cX12_goesOn 17 = .ok (.iadd, 1) := by decide +kernel
theorem dX12_goesOn_18 : decode cX12_goesOn 18 = .ok (.istore_n 3, 1) := by decide +kernel
theorem dX12_goesOn_19 : decode cX12_goesOn 19 = .ok (.iinc 4 1, 3) := by decide +kernel
theorem dX12_goesOn_22 : decode cX12_goesOn 22 = .ok (.goto (-17), 3) := by decide +kernel
theorem dX12_goesOn_25 : decode cX12_goesOn 25 = .ok (.iload_n 3, 1) := by decide +kernel
theorem dX12_goesOn_26 : decode cX12_goesOn 26 = .ok (.ireturn, 1) := by decide +kernel
theorem dX12_keepsAll_0 : decode cX12_keepsAll 0 = .ok (.iconst 0, 1) := by decide +kernel
theorem dX12_keepsAll_1 : decode cX12_keepsAll 1 = .ok (.istore_n 1, 1) := by decide +kernel
theorem dX12_keepsAll_2 : decode cX12_keepsAll 2 = .ok (.iload_n 1, 1) := by decide +kernel
theorem dX12_keepsAll_3 : decode cX12_keepsAll 3 = .ok (.sipush 364, 3) := by decide +kernel
theorem dX12_keepsAll_6 : decode cX12_keepsAll 6 = .ok (.if_icmp .ge 21, 3) := by decide +kernel
theorem dX12_keepsAll_9 : decode cX12_keepsAll 9 = .ok (.aload_n 0, 1) := by decide +kernel
theorem dX12_keepsAll_10 : decode cX12_keepsAll 10 = .ok (.getfield 23, 3) := by decide +kernel
theorem dX12_keepsAll_13 : decode cX12_keepsAll 13 = .ok (.iload_n 1, 1) := by decide +kernel
theorem dX12_keepsAll_14 : decode cX12_keepsAll 14 = .ok (.aload_n 0, 1) := by decide +kernel
theorem dX12_keepsAll_15 : decode cX12_keepsAll 15 = .ok (.getfield 13, 3) := by decide +kernel
theorem dX12_keepsAll_18 : decode cX12_keepsAll 18 = .ok (.iload_n 1, 1) := by decide +kernel
theorem dX12_keepsAll_19 : decode cX12_keepsAll 19 = .ok (.iaload, 1) := by decide +kernel
theorem dX12_keepsAll_20 : decode cX12_keepsAll 20 = .ok (.iastore, 1) := by decide +kernel
theorem dX12_keepsAll_21 : decode cX12_keepsAll 21 = .ok (.iinc 1 1, 3) := by decide +kernel
theorem dX12_keepsAll_24 : decode cX12_keepsAll 24 = .ok (.goto (-22), 3) := by decide +kernel
theorem dX12_keepsAll_27 : decode cX12_keepsAll 27 = .ok (.return_, 1) := by decide +kernel
theorem dX12_bringsBack_0 : decode cX12_bringsBack 0 = .ok (.iconst 0, 1) := by decide +kernel
theorem dX12_bringsBack_1 : decode cX12_bringsBack 1 = .ok (.istore_n 1, 1) := by decide +kernel
theorem dX12_bringsBack_2 : decode cX12_bringsBack 2 = .ok (.iload_n 1, 1) := by decide +kernel
theorem dX12_bringsBack_3 : decode cX12_bringsBack 3 = .ok (.sipush 364, 3) := by decide +kernel
theorem dX12_bringsBack_6 : decode cX12_bringsBack 6 = .ok (.if_icmp .ge 21, 3) := by decide +kernel
theorem dX12_bringsBack_9 : decode cX12_bringsBack 9 = .ok (.aload_n 0, 1) := by decide +kernel
theorem dX12_bringsBack_10 : decode cX12_bringsBack 10 = .ok (.getfield 13, 3) := by decide +kernel
theorem dX12_bringsBack_13 : decode cX12_bringsBack 13 = .ok (.iload_n 1, 1) := by decide +kernel
theorem dX12_bringsBack_14 : decode cX12_bringsBack 14 = .ok (.aload_n 0, 1) := by decide +kernel
theorem dX12_bringsBack_15 : decode cX12_bringsBack 15 = .ok (.getfield 23, 3) := by decide +kernel
theorem dX12_bringsBack_18 : decode cX12_bringsBack 18 = .ok (.iload_n 1, 1) := by decide +kernel
theorem dX12_bringsBack_19 : decode cX12_bringsBack 19 = .ok (.iaload, 1) := by decide +kernel
theorem dX12_bringsBack_20 : decode cX12_bringsBack 20 = .ok (.iastore, 1) := by decide +kernel
theorem dX12_bringsBack_21 : decode cX12_bringsBack 21 = .ok (.iinc 1 1, 3) := by decide +kernel
theorem dX12_bringsBack_24 : decode cX12_bringsBack 24 = .ok (.goto (-22), 3) := by decide +kernel
theorem dX12_bringsBack_27 : decode cX12_bringsBack 27 = .ok (.return_, 1) := by decide +kernel
theorem dX12_seasons_0 : decode cX12_seasons 0 = .ok (.aload_n 0, 1) := by decide +kernel
theorem dX12_seasons_1 : decode cX12_seasons 1 = .ok (.iconst 0, 1) := by decide +kernel
theorem dX12_seasons_2 : decode cX12_seasons 2 = .ok (.putfield 3, 3) := by decide +kernel
theorem dX12_seasons_5 : decode cX12_seasons 5 = .ok (.aload_n 0, 1) := by decide +kernel
theorem dX12_seasons_6 : decode cX12_seasons 6 = .ok (.iload_n 1, 1) := by decide +kernel
theorem dX12_seasons_7 : decode cX12_seasons 7 = .ok (.iconst 1, 1) := by decide +kernel
theorem dX12_seasons_8 : decode cX12_seasons 8 = .ok (.bipush 60, 2) := by decide +kernel
theorem dX12_seasons_10 : decode cX12_seasons 10 = .ok (.invokestatic 84, 3) := by decide +kernel
theorem dX12_seasons_13 : decode cX12_seasons 13 = .ok (.ifCond .ne 7, 3) := by decide +kernel
theorem dX12_seasons_16 : decode cX12_seasons 16 = .ok (.iconst 1, 1) := by decide +kernel
theorem dX12_seasons_17 : decode cX12_seasons 17 = .ok (.goto 4, 3) := by decide +kernel
theorem dX12_seasons_20 : decode cX12_seasons 20 = .ok (.iconst 0, 1) := by decide +kernel
theorem dX12_seasons_21 : decode cX12_seasons 21 = .ok (.iconst 1, 1) := by decide +kernel
theorem dX12_seasons_22 : decode cX12_seasons 22 = .ok (.invokevirtual 269, 3) := by decide +kernel
theorem dX12_seasons_25 : decode cX12_seasons 25 = .ok (.ifCond .eq 5, 3) := by decide +kernel
theorem dX12_seasons_28 : decode cX12_seasons 28 = .ok (.iconst 0, 1) := by decide +kernel
theorem dX12_seasons_29 : decode cX12_seasons 29 = .ok (.ireturn, 1) := by decide +kernel
theorem dX12_seasons_30 : decode cX12_seasons 30 = .ok (.aload_n 0, 1) := by decide +kernel
theorem dX12_seasons_31 : decode cX12_seasons 31 = .ok (.invokevirtual 361, 3) := by decide +kernel
theorem dX12_seasons_34 : decode cX12_seasons 34 = .ok (.aload_n 0, 1) := by decide +kernel
theorem dX12_seasons_35 : decode cX12_seasons 35 = .ok (.iload_n 1, 1) := by decide +kernel
theorem dX12_seasons_36 : decode cX12_seasons 36 = .ok (.iconst 0, 1) := by decide +kernel
theorem dX12_seasons_37 : decode cX12_seasons 37 = .ok (.invokevirtual 364, 3) := by decide +kernel
theorem dX12_seasons_40 : decode cX12_seasons 40 = .ok (.ireturn, 1) := by decide +kernel
theorem dX12_grudgeOf_0 : decode cX12_grudgeOf 0 = .ok (.iconst 0, 1) := by decide +kernel
theorem dX12_grudgeOf_1 : decode cX12_grudgeOf 1 = .ok (.istore_n 3, 1) := by decide +kernel
theorem dX12_grudgeOf_2 : decode cX12_grudgeOf 2 = .ok (.iload_n 3, 1) := by decide +kernel
theorem dX12_grudgeOf_3 : decode cX12_grudgeOf 3 = .ok (.aload_n 0, 1) := by decide +kernel
theorem dX12_grudgeOf_4 : decode cX12_grudgeOf 4 = .ok (.invokevirtual 73, 3) := by decide +kernel
theorem dX12_grudgeOf_7 : decode cX12_grudgeOf 7 = .ok (.if_icmp .ge 39, 3) := by decide +kernel
theorem dX12_grudgeOf_10 : decode cX12_grudgeOf 10 = .ok (.aload_n 0, 1) := by decide +kernel
theorem dX12_grudgeOf_11 : decode cX12_grudgeOf 11 = .ok (.iload_n 3, 1) := by decide +kernel
theorem dX12_grudgeOf_12 : decode cX12_grudgeOf 12 = .ok (.invokevirtual 76, 3) := by decide +kernel
theorem dX12_grudgeOf_15 : decode cX12_grudgeOf 15 = .ok (.ifCond .ne 25, 3) := by decide +kernel
theorem dX12_grudgeOf_18 : decode cX12_grudgeOf 18 = .ok (.aload_n 0, 1) := by decide +kernel
theorem dX12_grudgeOf_19 : decode cX12_grudgeOf 19 = .ok (.iload_n 3, 1) := by decide +kernel
theorem dX12_grudgeOf_20 : decode cX12_grudgeOf 20 = .ok (.iconst 0, 1) := by decide +kernel
theorem dX12_grudgeOf_21 : decode cX12_grudgeOf 21 = .ok (.invokevirtual 70, 3) := by decide +kernel
theorem dX12_grudgeOf_24 : decode cX12_grudgeOf 24 = .ok (.iload_n 1, 1) := by decide +kernel
theorem dX12_grudgeOf_25 : decode cX12_grudgeOf 25 = .ok (.if_icmp .ne 15, 3) := by decide +kernel
theorem dX12_grudgeOf_28 : decode cX12_grudgeOf 28 = .ok (.aload_n 0, 1) := by decide +kernel
theorem dX12_grudgeOf_29 : decode cX12_grudgeOf 29 = .ok (.iload_n 3, 1) := by decide +kernel
theorem dX12_grudgeOf_30 : decode cX12_grudgeOf 30 = .ok (.iconst 1, 1) := by decide +kernel
theorem dX12_grudgeOf_31 : decode cX12_grudgeOf 31 = .ok (.invokevirtual 70, 3) := by decide +kernel
theorem dX12_grudgeOf_34 : decode cX12_grudgeOf 34 = .ok (.iload_n 2, 1) := by decide +kernel
theorem dX12_grudgeOf_35 : decode cX12_grudgeOf 35 = .ok (.if_icmp .ne 5, 3) := by decide +kernel
theorem dX12_grudgeOf_38 : decode cX12_grudgeOf 38 = .ok (.iload_n 3, 1) := by decide +kernel
theorem dX12_grudgeOf_39 : decode cX12_grudgeOf 39 = .ok (.ireturn, 1) := by decide +kernel
theorem dX12_grudgeOf_40 : decode cX12_grudgeOf 40 = .ok (.iinc 3 1, 3) := by decide +kernel
theorem dX12_grudgeOf_43 : decode cX12_grudgeOf 43 = .ok (.goto (-41), 3) := by decide +kernel
theorem dX12_grudgeOf_46 : decode cX12_grudgeOf 46 = .ok (.iconst (-1), 1) := by decide +kernel
theorem dX12_grudgeOf_47 : decode cX12_grudgeOf 47 = .ok (.ireturn, 1) := by decide +kernel
theorem dX12_insult_0 : decode cX12_insult 0 = .ok (.aload_n 0, 1) := by decide +kernel
theorem dX12_insult_1 : decode cX12_insult 1 = .ok (.iconst 0, 1) := by decide +kernel
theorem dX12_insult_2 : decode cX12_insult 2 = .ok (.putfield 3, 3) := by decide +kernel
theorem dX12_insult_5 : decode cX12_insult 5 = .ok (.aload_n 0, 1) := by decide +kernel
theorem dX12_insult_6 : decode cX12_insult 6 = .ok (.aload_n 0, 1) := by decide +kernel
theorem dX12_insult_7 : decode cX12_insult 7 = .ok (.iload_n 1, 1) := by decide +kernel
theorem dX12_insult_8 : decode cX12_insult 8 = .ok (.invokevirtual 301, 3) := by decide +kernel
theorem dX12_insult_11 : decode cX12_insult 11 = .ok (.ifCond .ne 18, 3) := by decide +kernel
theorem dX12_insult_14 : decode cX12_insult 14 = .ok (.aload_n 0, 1) := by decide +kernel
theorem dX12_insult_15 : decode cX12_insult 15 = .ok (.iload_n 2, 1) := by decide +kernel
theorem dX12_insult_16 : decode cX12_insult 16 = .ok (.invokevirtual 301, 3) := by decide +kernel
theorem dX12_insult_19 : decode cX12_insult 19 = .ok (.ifCond .ne 10, 3) := by decide +kernel
theorem dX12_insult_22 : decode cX12_insult 22 = .ok (.iload_n 3, 1) := by decide +kernel
theorem dX12_insult_23 : decode cX12_insult 23 = .ok (.invokestatic 324, 3) := by decide +kernel
theorem dX12_insult_26 : decode cX12_insult 26 = .ok (.ifCond .eq 7, 3) := by decide +kernel
theorem dX12_insult_29 : decode cX12_insult 29 = .ok (.iconst 1, 1) := by decide +kernel
theorem dX12_insult_30 : decode cX12_insult 30 = .ok (.goto 4, 3) := by decide +kernel
theorem dX12_insult_33 : decode cX12_insult 33 = .ok (.iconst 0, 1) := by decide +kernel
theorem dX12_insult_34 : decode cX12_insult 34 = .ok (.iconst 1, 1) := by decide +kernel
theorem dX12_insult_35 : decode cX12_insult 35 = .ok (.invokevirtual 269, 3) := by decide +kernel
theorem dX12_insult_38 : decode cX12_insult 38 = .ok (.ifCond .ne 21, 3) := by decide +kernel
theorem dX12_insult_41 : decode cX12_insult 41 = .ok (.aload_n 0, 1) := by decide +kernel
theorem dX12_insult_42 : decode cX12_insult 42 = .ok (.iload_n 1, 1) := by decide +kernel
theorem dX12_insult_43 : decode cX12_insult 43 = .ok (.iload_n 2, 1) := by decide +kernel
theorem dX12_insult_44 : decode cX12_insult 44 = .ok (.if_icmp .ne 7, 3) := by decide +kernel
theorem dX12_insult_47 : decode cX12_insult 47 = .ok (.iconst 1, 1) := by decide +kernel
theorem dX12_insult_48 : decode cX12_insult 48 = .ok (.goto 4, 3) := by decide +kernel
theorem dX12_insult_51 : decode cX12_insult 51 = .ok (.iconst 0, 1) := by decide +kernel
theorem dX12_insult_52 : decode cX12_insult 52 = .ok (.iconst 2, 1) := by decide +kernel
theorem dX12_insult_53 : decode cX12_insult 53 = .ok (.invokevirtual 269, 3) := by decide +kernel
theorem dX12_insult_56 : decode cX12_insult 56 = .ok (.ifCond .eq 5, 3) := by decide +kernel
theorem dX12_insult_59 : decode cX12_insult 59 = .ok (.iconst 0, 1) := by decide +kernel
theorem dX12_insult_60 : decode cX12_insult 60 = .ok (.ireturn, 1) := by decide +kernel
theorem dX12_insult_61 : decode cX12_insult 61 = .ok (.aload_n 0, 1) := by decide +kernel
theorem dX12_insult_62 : decode cX12_insult 62 = .ok (.iload_n 1, 1) := by decide +kernel
theorem dX12_insult_63 : decode cX12_insult 63 = .ok (.iload_n 2, 1) := by decide +kernel
theorem dX12_insult_64 : decode cX12_insult 64 = .ok (.invokevirtual 368, 3) := by decide +kernel
theorem dX12_insult_67 : decode cX12_insult 67 = .ok (.istore 4, 2) := by decide +kernel
theorem dX12_insult_69 : decode cX12_insult 69 = .ok (.aload_n 0, 1) := by decide +kernel
theorem dX12_insult_70 : decode cX12_insult 70 = .ok (.iload 4, 2) := by decide +kernel
theorem dX12_insult_72 : decode cX12_insult 72 = .ok (.iconst (-1), 1) := by decide +kernel
theorem dX12_insult_73 : decode cX12_insult 73 = .ok (.if_icmp .ne 16, 3) := by decide +kernel
theorem dX12_insult_76 : decode cX12_insult 76 = .ok (.aload_n 0, 1) := by decide +kernel
theorem dX12_insult_77 : decode cX12_insult 77 = .ok (.invokevirtual 73, 3) := by decide +kernel
theorem dX12_insult_80 : decode cX12_insult 80 = .ok (.bipush 10, 2) := by decide +kernel
theorem dX12_insult_82 : decode cX12_insult 82 = .ok (.if_icmp .ne 7, 3) := by decide +kernel
theorem dX12_insult_85 : decode cX12_insult 85 = .ok (.iconst 1, 1) := by decide +kernel
theorem dX12_insult_86 : decode cX12_insult 86 = .ok (.goto 4, 3) := by decide +kernel
theorem dX12_insult_89 : decode cX12_insult 89 = .ok (.iconst 0, 1) := by decide +kernel
theorem dX12_insult_90 : decode cX12_insult 90 = .ok (.iconst 3, 1) := by decide +kernel
theorem dX12_insult_91 : decode cX12_insult 91 = .ok (.invokevirtual 269, 3) := by decide +kernel
theorem dX12_insult_94 : decode cX12_insult 94 = .ok (.ifCond .eq 5, 3) := by decide +kernel
theorem dX12_insult_97 : decode cX12_insult 97 = .ok (.iconst 0, 1) := by decide +kernel
theorem dX12_insult_98 : decode cX12_insult 98 = .ok (.ireturn, 1) := by decide +kernel
theorem dX12_insult_99 : decode cX12_insult 99 = .ok (.aload_n 0, 1) := by decide +kernel
theorem dX12_insult_100 : decode cX12_insult 100 = .ok (.invokevirtual 361, 3) := by decide +kernel
theorem dX12_insult_103 : decode cX12_insult 103 = .ok (.bipush 10, 2) := by decide +kernel
theorem dX12_insult_105 : decode cX12_insult 105 = .ok (.aload_n 0, 1) := by decide +kernel
theorem dX12_insult_106 : decode cX12_insult 106 = .ok (.getfield 13, 3) := by decide +kernel
theorem dX12_insult_109 : decode cX12_insult 109 = .ok (.bipush 14, 2) := by decide +kernel
theorem dX12_insult_111 : decode cX12_insult 111 = .ok (.iconst 2, 1) := by decide +kernel
theorem dX12_insult_112 : decode cX12_insult 112 = .ok (.iload_n 3, 1) := by decide +kernel
theorem dX12_insult_113 : decode cX12_insult 113 = .ok (.imul, 1) := by decide +kernel
theorem dX12_insult_114 : decode cX12_insult 114 = .ok (.iadd, 1) := by decide +kernel
theorem dX12_insult_115 : decode cX12_insult 115 = .ok (.iconst 0, 1) := by decide +kernel
theorem dX12_insult_116 : decode cX12_insult 116 = .ok (.iadd, 1) := by decide +kernel
theorem dX12_insult_117 : decode cX12_insult 117 = .ok (.iaload, 1) := by decide +kernel
theorem dX12_insult_118 : decode cX12_insult 118 = .ok (.iadd, 1) := by decide +kernel
theorem dX12_insult_119 : decode cX12_insult 119 = .ok (.istore 5, 2) := by decide +kernel
theorem dX12_insult_121 : decode cX12_insult 121 = .ok (.iload 4, 2) := by decide +kernel
theorem dX12_insult_123 : decode cX12_insult 123 = .ok (.iconst (-1), 1) := by decide +kernel
theorem dX12_insult_124 : decode cX12_insult 124 = .ok (.if_icmp .ne 19, 3) := by decide +kernel
theorem dX12_insult_127 : decode cX12_insult 127 = .ok (.aload_n 0, 1) := by decide +kernel
theorem dX12_insult_128 : decode cX12_insult 128 = .ok (.iload_n 1, 1) := by decide +kernel
theorem dX12_insult_129 : decode cX12_insult 129 = .ok (.iload_n 2, 1) := by decide +kernel
theorem dX12_insult_130 : decode cX12_insult 130 = .ok (.iload_n 3, 1) := by decide +kernel
theorem dX12_insult_131 : decode cX12_insult 131 = .ok (.iload 5, 2) := by decide +kernel
theorem dX12_insult_133 : decode cX12_insult 133 = .ok (.invokevirtual 152, 3) := by decide +kernel
theorem dX12_insult_136 : decode cX12_insult 136 = .ok (.aload_n 0, 1) := by decide +kernel
theorem dX12_insult_137 : decode cX12_insult 137 = .ok (.invokevirtual 73, 3) := by decide +kernel
theorem dX12_insult_140 : decode cX12_insult 140 = .ok (.iconst 1, 1) := by decide +kernel
theorem dX12_insult_141 : decode cX12_insult 141 = .ok (.isub, 1) := by decide +kernel
theorem dX12_insult_142 : decode cX12_insult 142 = .ok (.ireturn, 1) := by decide +kernel
theorem dX12_insult_143 : decode cX12_insult 143 = .ok (.aload_n 0, 1) := by decide +kernel
theorem dX12_insult_144 : decode cX12_insult 144 = .ok (.iload 4, 2) := by decide +kernel
theorem dX12_insult_146 : decode cX12_insult 146 = .ok (.iconst 4, 1) := by decide +kernel
theorem dX12_insult_147 : decode cX12_insult 147 = .ok (.invokestatic 67, 3) := by decide +kernel
theorem dX12_insult_150 : decode cX12_insult 150 = .ok (.iload 5, 2) := by decide +kernel
theorem dX12_insult_152 : decode cX12_insult 152 = .ok (.sipush 999, 3) := by decide +kernel
theorem dX12_insult_155 : decode cX12_insult 155 = .ok (.invokevirtual 333, 3) := by decide +kernel
theorem dX12_insult_158 : decode cX12_insult 158 = .ok (.aload_n 0, 1) := by decide +kernel
theorem dX12_insult_159 : decode cX12_insult 159 = .ok (.getfield 13, 3) := by decide +kernel
theorem dX12_insult_162 : decode cX12_insult 162 = .ok (.iload 4, 2) := by decide +kernel
theorem dX12_insult_164 : decode cX12_insult 164 = .ok (.iconst 2, 1) := by decide +kernel
theorem dX12_insult_165 : decode cX12_insult 165 = .ok (.invokestatic 67, 3) := by decide +kernel
theorem dX12_insult_168 : decode cX12_insult 168 = .ok (.iload_n 3, 1) := by decide +kernel
theorem dX12_insult_169 : decode cX12_insult 169 = .ok (.iastore, 1) := by decide +kernel
theorem dX12_insult_170 : decode cX12_insult 170 = .ok (.iload 4, 2) := by decide +kernel
theorem dX12_insult_172 : decode cX12_insult 172 = .ok (.ireturn, 1) := by decide +kernel
theorem dX12_forgive_0 : decode cX12_forgive 0 = .ok (.aload_n 0, 1) := by decide +kernel
theorem dX12_forgive_1 : decode cX12_forgive 1 = .ok (.iconst 0, 1) := by decide +kernel
theorem dX12_forgive_2 : decode cX12_forgive 2 = .ok (.putfield 3, 3) := by decide +kernel
theorem dX12_forgive_5 : decode cX12_forgive 5 = .ok (.aload_n 0, 1) := by decide +kernel
theorem dX12_forgive_6 : decode cX12_forgive 6 = .ok (.aload_n 0, 1) := by decide +kernel
theorem dX12_forgive_7 : decode cX12_forgive 7 = .ok (.iload_n 1, 1) := by decide +kernel
theorem dX12_forgive_8 : decode cX12_forgive 8 = .ok (.invokevirtual 315, 3) := by decide +kernel
theorem dX12_forgive_11 : decode cX12_forgive 11 = .ok (.iconst 1, 1) := by decide +kernel
theorem dX12_forgive_12 : decode cX12_forgive 12 = .ok (.invokevirtual 269, 3) := by decide +kernel
theorem dX12_forgive_15 : decode cX12_forgive 15 = .ok (.ifCond .ne 16, 3) := by decide +kernel
theorem dX12_forgive_18 : decode cX12_forgive 18 = .ok (.aload_n 0, 1) := by decide +kernel
theorem dX12_forgive_19 : decode cX12_forgive 19 = .ok (.aload_n 0, 1) := by decide +kernel
theorem dX12_forgive_20 : decode cX12_forgive 20 = .ok (.iload_n 1, 1) := by decide +kernel
theorem dX12_forgive_21 : decode cX12_forgive 21 = .ok (.invokevirtual 76, 3) := by decide +kernel
theorem dX12_forgive_24 : decode cX12_forgive 24 = .ok (.iconst 2, 1) := by decide +kernel
theorem dX12_forgive_25 : decode cX12_forgive 25 = .ok (.invokevirtual 269, 3) := by decide +kernel
theorem dX12_forgive_28 : decode cX12_forgive 28 = .ok (.ifCond .eq 5, 3) := by decide +kernel
theorem dX12_forgive_31 : decode cX12_forgive 31 = .ok (.iconst 0, 1) := by decide +kernel
theorem dX12_forgive_32 : decode cX12_forgive 32 = .ok (.ireturn, 1) := by decide +kernel
theorem dX12_forgive_33 : decode cX12_forgive 33 = .ok (.aload_n 0, 1) := by decide +kernel
theorem dX12_forgive_34 : decode cX12_forgive 34 = .ok (.invokevirtual 361, 3) := by decide +kernel
theorem dX12_forgive_37 : decode cX12_forgive 37 = .ok (.aload_n 0, 1) := by decide +kernel
theorem dX12_forgive_38 : decode cX12_forgive 38 = .ok (.getfield 13, 3) := by decide +kernel
theorem dX12_forgive_41 : decode cX12_forgive 41 = .ok (.iload_n 1, 1) := by decide +kernel
theorem dX12_forgive_42 : decode cX12_forgive 42 = .ok (.bipush 6, 2) := by decide +kernel
theorem dX12_forgive_44 : decode cX12_forgive 44 = .ok (.invokestatic 67, 3) := by decide +kernel
theorem dX12_forgive_47 : decode cX12_forgive 47 = .ok (.iconst 1, 1) := by decide +kernel
theorem dX12_forgive_48 : decode cX12_forgive 48 = .ok (.iastore, 1) := by decide +kernel
theorem dX12_forgive_49 : decode cX12_forgive 49 = .ok (.aload_n 0, 1) := by decide +kernel
theorem dX12_forgive_50 : decode cX12_forgive 50 = .ok (.iload_n 1, 1) := by decide +kernel
theorem dX12_forgive_51 : decode cX12_forgive 51 = .ok (.iconst 1, 1) := by decide +kernel
theorem dX12_forgive_52 : decode cX12_forgive 52 = .ok (.iconst 0, 1) := by decide +kernel
theorem dX12_forgive_53 : decode cX12_forgive 53 = .ok (.invokevirtual 337, 3) := by decide +kernel
theorem dX12_forgive_56 : decode cX12_forgive 56 = .ok (.aload_n 0, 1) := by decide +kernel
theorem dX12_forgive_57 : decode cX12_forgive 57 = .ok (.iload_n 1, 1) := by decide +kernel
theorem dX12_forgive_58 : decode cX12_forgive 58 = .ok (.iconst 4, 1) := by decide +kernel
theorem dX12_forgive_59 : decode cX12_forgive 59 = .ok (.invokevirtual 70, 3) := by decide +kernel
theorem dX12_forgive_62 : decode cX12_forgive 62 = .ok (.ireturn, 1) := by decide +kernel
theorem dX12_nurse_0 : decode cX12_nurse 0 = .ok (.aload_n 0, 1) := by decide +kernel
theorem dX12_nurse_1 : decode cX12_nurse 1 = .ok (.iconst 0, 1) := by decide +kernel
theorem dX12_nurse_2 : decode cX12_nurse 2 = .ok (.putfield 3, 3) := by decide +kernel
theorem dX12_nurse_5 : decode cX12_nurse 5 = .ok (.aload_n 0, 1) := by decide +kernel
theorem dX12_nurse_6 : decode cX12_nurse 6 = .ok (.aload_n 0, 1) := by decide +kernel
theorem dX12_nurse_7 : decode cX12_nurse 7 = .ok (.iload_n 1, 1) := by decide +kernel
theorem dX12_nurse_8 : decode cX12_nurse 8 = .ok (.invokevirtual 315, 3) := by decide +kernel
theorem dX12_nurse_11 : decode cX12_nurse 11 = .ok (.iconst 1, 1) := by decide +kernel
theorem dX12_nurse_12 : decode cX12_nurse 12 = .ok (.invokevirtual 269, 3) := by decide +kernel
theorem dX12_nurse_15 : decode cX12_nurse 15 = .ok (.ifCond .ne 16, 3) := by decide +kernel
theorem dX12_nurse_18 : decode cX12_nurse 18 = .ok (.aload_n 0, 1) := by decide +kernel
theorem dX12_nurse_19 : decode cX12_nurse 19 = .ok (.aload_n 0, 1) := by decide +kernel
theorem dX12_nurse_20 : decode cX12_nurse 20 = .ok (.iload_n 1, 1) := by decide +kernel
theorem dX12_nurse_21 : decode cX12_nurse 21 = .ok (.invokevirtual 76, 3) := by decide +kernel
theorem dX12_nurse_24 : decode cX12_nurse 24 = .ok (.iconst 2, 1) := by decide +kernel
theorem dX12_nurse_25 : decode cX12_nurse 25 = .ok (.invokevirtual 269, 3) := by decide +kernel
theorem dX12_nurse_28 : decode cX12_nurse 28 = .ok (.ifCond .eq 5, 3) := by decide +kernel
theorem dX12_nurse_31 : decode cX12_nurse 31 = .ok (.iconst 0, 1) := by decide +kernel
theorem dX12_nurse_32 : decode cX12_nurse 32 = .ok (.ireturn, 1) := by decide +kernel
theorem dX12_nurse_33 : decode cX12_nurse 33 = .ok (.aload_n 0, 1) := by decide +kernel
theorem dX12_nurse_34 : decode cX12_nurse 34 = .ok (.invokevirtual 361, 3) := by decide +kernel
theorem dX12_nurse_37 : decode cX12_nurse 37 = .ok (.aload_n 0, 1) := by decide +kernel
theorem dX12_nurse_38 : decode cX12_nurse 38 = .ok (.iload_n 1, 1) := by decide +kernel
theorem dX12_nurse_39 : decode cX12_nurse 39 = .ok (.iconst 5, 1) := by decide +kernel
theorem dX12_nurse_40 : decode cX12_nurse 40 = .ok (.invokevirtual 70, 3) := by decide +kernel
theorem dX12_nurse_43 : decode cX12_nurse 43 = .ok (.iconst 1, 1) := by decide +kernel
theorem dX12_nurse_44 : decode cX12_nurse 44 = .ok (.if_icmp .ne 7, 3) := by decide +kernel
theorem dX12_nurse_47 : decode cX12_nurse 47 = .ok (.iconst 1, 1) := by decide +kernel
theorem dX12_nurse_48 : decode cX12_nurse 48 = .ok (.goto 4, 3) := by decide +kernel
theorem dX12_nurse_51 : decode cX12_nurse 51 = .ok (.iconst 0, 1) := by decide +kernel
theorem dX12_nurse_52 : decode cX12_nurse 52 = .ok (.istore_n 3, 1) := by decide +kernel
theorem dX12_nurse_53 : decode cX12_nurse 53 = .ok (.aload_n 0, 1) := by decide +kernel
theorem dX12_nurse_54 : decode cX12_nurse 54 = .ok (.getfield 13, 3) := by decide +kernel
theorem dX12_nurse_57 : decode cX12_nurse 57 = .ok (.iload_n 1, 1) := by decide +kernel
theorem dX12_nurse_58 : decode cX12_nurse 58 = .ok (.iconst 5, 1) := by decide +kernel
theorem dX12_nurse_59 : decode cX12_nurse 59 = .ok (.invokestatic 67, 3) := by decide +kernel
theorem dX12_nurse_62 : decode cX12_nurse 62 = .ok (.iload_n 2, 1) := by decide +kernel
theorem dX12_nurse_63 : decode cX12_nurse 63 = .ok (.ifCond .eq 7, 3) := by decide +kernel
theorem dX12_nurse_66 : decode cX12_nurse 66 = .ok (.iconst 1, 1) := by decide +kernel
theorem dX12_nurse_67 : decode cX12_nurse 67 = .ok (.goto 4, 3) := by decide +kernel
theorem dX12_nurse_70 : decode cX12_nurse 70 = .ok (.iconst 0, 1) := by decide +kernel
theorem dX12_nurse_71 : decode cX12_nurse 71 = .ok (.iastore, 1) := by decide +kernel
theorem dX12_nurse_72 : decode cX12_nurse 72 = .ok (.iload_n 3, 1) := by decide +kernel
theorem dX12_nurse_73 : decode cX12_nurse 73 = .ok (.iload_n 2, 1) := by decide +kernel
theorem dX12_nurse_74 : decode cX12_nurse 74 = .ok (.if_icmp .eq 7, 3) := by decide +kernel
theorem dX12_nurse_77 : decode cX12_nurse 77 = .ok (.iconst 1, 1) := by decide +kernel
theorem dX12_nurse_78 : decode cX12_nurse 78 = .ok (.goto 4, 3) := by decide +kernel
theorem dX12_nurse_81 : decode cX12_nurse 81 = .ok (.iconst 0, 1) := by decide +kernel
theorem dX12_nurse_82 : decode cX12_nurse 82 = .ok (.ireturn, 1) := by decide +kernel
theorem dX12_saw_0 : decode cX12_saw 0 = .ok (.aload_n 0, 1) := by decide +kernel
theorem dX12_saw_1 : decode cX12_saw 1 = .ok (.iconst 0, 1) := by decide +kernel
theorem dX12_saw_2 : decode cX12_saw 2 = .ok (.putfield 3, 3) := by decide +kernel
theorem dX12_saw_5 : decode cX12_saw 5 = .ok (.aload_n 0, 1) := by decide +kernel
theorem dX12_saw_6 : decode cX12_saw 6 = .ok (.aload_n 0, 1) := by decide +kernel
theorem dX12_saw_7 : decode cX12_saw 7 = .ok (.iload_n 1, 1) := by decide +kernel
theorem dX12_saw_8 : decode cX12_saw 8 = .ok (.invokevirtual 315, 3) := by decide +kernel
theorem dX12_saw_11 : decode cX12_saw 11 = .ok (.ifCond .ne 11, 3) := by decide +kernel
theorem dX12_saw_14 : decode cX12_saw 14 = .ok (.aload_n 0, 1) := by decide +kernel
theorem dX12_saw_15 : decode cX12_saw 15 = .ok (.iload_n 2, 1) := by decide +kernel
theorem dX12_saw_16 : decode cX12_saw 16 = .ok (.invokevirtual 301, 3) := by decide +kernel
theorem dX12_saw_19 : decode cX12_saw 19 = .ok (.ifCond .eq 7, 3) := by decide +kernel
theorem dX12_saw_22 : decode cX12_saw 22 = .ok (.iconst 1, 1) := by decide +kernel
theorem dX12_saw_23 : decode cX12_saw 23 = .ok (.goto 4, 3) := by decide +kernel
theorem dX12_saw_26 : decode cX12_saw 26 = .ok (.iconst 0, 1) := by decide +kernel
theorem dX12_saw_27 : decode cX12_saw 27 = .ok (.iconst 1, 1) := by decide +kernel
theorem dX12_saw_28 : decode cX12_saw 28 = .ok (.invokevirtual 269, 3) := by decide +kernel
theorem dX12_saw_31 : decode cX12_saw 31 = .ok (.ifCond .ne 67, 3) := by decide +kernel
theorem dX12_saw_34 : decode cX12_saw 34 = .ok (.aload_n 0, 1) := by decide +kernel
theorem dX12_saw_35 : decode cX12_saw 35 = .ok (.iload_n 3, 1) := by decide +kernel
theorem dX12_saw_36 : decode cX12_saw 36 = .ok (.iconst 1, 1) := by decide +kernel
theorem dX12_saw_37 : decode cX12_saw 37 = .ok (.sipush 999, 3) := by decide +kernel
theorem dX12_saw_40 : decode cX12_saw 40 = .ok (.invokestatic 84, 3) := by decide +kernel
theorem dX12_saw_43 : decode cX12_saw 43 = .ok (.ifCond .ne 7, 3) := by decide +kernel
theorem dX12_saw_46 : decode cX12_saw 46 = .ok (.iconst 1, 1) := by decide +kernel
theorem dX12_saw_47 : decode cX12_saw 47 = .ok (.goto 4, 3) := by decide +kernel
theorem dX12_saw_50 : decode cX12_saw 50 = .ok (.iconst 0, 1) := by decide +kernel
theorem dX12_saw_51 : decode cX12_saw 51 = .ok (.iconst 2, 1) := by decide +kernel
theorem dX12_saw_52 : decode cX12_saw 52 = .ok (.invokevirtual 269, 3) := by decide +kernel
theorem dX12_saw_55 : decode cX12_saw 55 = .ok (.ifCond .ne 43, 3) := by decide +kernel
theorem dX12_saw_58 : decode cX12_saw 58 = .ok (.aload_n 0, 1) := by decide +kernel
theorem dX12_saw_59 : decode cX12_saw 59 = .ok (.aload_n 0, 1) := by decide +kernel
theorem dX12_saw_60 : decode cX12_saw 60 = .ok (.iload_n 1, 1) := by decide +kernel
theorem dX12_saw_61 : decode cX12_saw 61 = .ok (.invokevirtual 76, 3) := by decide +kernel
theorem dX12_saw_64 : decode cX12_saw 64 = .ok (.ifCond .ne 22, 3) := by decide +kernel
theorem dX12_saw_67 : decode cX12_saw 67 = .ok (.aload_n 0, 1) := by decide +kernel
theorem dX12_saw_68 : decode cX12_saw 68 = .ok (.iload_n 1, 1) := by decide +kernel
theorem dX12_saw_69 : decode cX12_saw 69 = .ok (.iload_n 2, 1) := by decide +kernel
theorem dX12_saw_70 : decode cX12_saw 70 = .ok (.invokevirtual 298, 3) := by decide +kernel
theorem dX12_saw_73 : decode cX12_saw 73 = .ok (.ifCond .ne 13, 3) := by decide +kernel
theorem dX12_saw_76 : decode cX12_saw 76 = .ok (.aload_n 0, 1) := by decide +kernel
theorem dX12_saw_77 : decode cX12_saw 77 = .ok (.iload_n 1, 1) := by decide +kernel
theorem dX12_saw_78 : decode cX12_saw 78 = .ok (.iconst 4, 1) := by decide +kernel
theorem dX12_saw_79 : decode cX12_saw 79 = .ok (.invokevirtual 70, 3) := by decide +kernel
theorem dX12_saw_82 : decode cX12_saw 82 = .ok (.iload_n 3, 1) := by decide +kernel
theorem dX12_saw_83 : decode cX12_saw 83 = .ok (.if_icmp .ge 7, 3) := by decide +kernel
theorem dX12_saw_86 : decode cX12_saw 86 = .ok (.iconst 1, 1) := by decide +kernel
theorem dX12_saw_87 : decode cX12_saw 87 = .ok (.goto 4, 3) := by decide +kernel
theorem dX12_saw_90 : decode cX12_saw 90 = .ok (.iconst 0, 1) := by decide +kernel
theorem dX12_saw_91 : decode cX12_saw 91 = .ok (.iconst 3, 1) := by decide +kernel
theorem dX12_saw_92 : decode cX12_saw 92 = .ok (.invokevirtual 269, 3) := by decide +kernel
theorem dX12_saw_95 : decode cX12_saw 95 = .ok (.ifCond .eq 5, 3) := by decide +kernel
theorem dX12_saw_98 : decode cX12_saw 98 = .ok (.iconst 0, 1) := by decide +kernel
theorem dX12_saw_99 : decode cX12_saw 99 = .ok (.ireturn, 1) := by decide +kernel
theorem dX12_saw_100 : decode cX12_saw 100 = .ok (.aload_n 0, 1) := by decide +kernel
theorem dX12_saw_101 : decode cX12_saw 101 = .ok (.invokevirtual 361, 3) := by decide +kernel
theorem dX12_saw_104 : decode cX12_saw 104 = .ok (.aload_n 0, 1) := by decide +kernel
theorem dX12_saw_105 : decode cX12_saw 105 = .ok (.getfield 13, 3) := by decide +kernel
theorem dX12_saw_108 : decode cX12_saw 108 = .ok (.iload_n 1, 1) := by decide +kernel
theorem dX12_saw_109 : decode cX12_saw 109 = .ok (.iconst 4, 1) := by decide +kernel
theorem dX12_saw_110 : decode cX12_saw 110 = .ok (.invokestatic 67, 3) := by decide +kernel
theorem dX12_saw_113 : decode cX12_saw 113 = .ok (.dup2, 1) := by decide +kernel
theorem dX12_saw_114 : decode cX12_saw 114 = .ok (.iaload, 1) := by decide +kernel
theorem dX12_saw_115 : decode cX12_saw 115 = .ok (.iload_n 3, 1) := by decide +kernel
theorem dX12_saw_116 : decode cX12_saw 116 = .ok (.isub, 1) := by decide +kernel
theorem dX12_saw_117 : decode cX12_saw 117 = .ok (.iastore, 1) := by decide +kernel
theorem dX12_saw_118 : decode cX12_saw 118 = .ok (.aload_n 0, 1) := by decide +kernel
theorem dX12_saw_119 : decode cX12_saw 119 = .ok (.iload_n 2, 1) := by decide +kernel
theorem dX12_saw_120 : decode cX12_saw 120 = .ok (.iconst 2, 1) := by decide +kernel
theorem dX12_saw_121 : decode cX12_saw 121 = .ok (.invokestatic 63, 3) := by decide +kernel
theorem dX12_saw_124 : decode cX12_saw 124 = .ok (.iload_n 3, 1) := by decide +kernel
theorem dX12_saw_125 : decode cX12_saw 125 = .ok (.sipush 999, 3) := by decide +kernel
theorem dX12_saw_128 : decode cX12_saw 128 = .ok (.invokevirtual 333, 3) := by decide +kernel
theorem dX12_saw_131 : decode cX12_saw 131 = .ok (.aload_n 0, 1) := by decide +kernel
theorem dX12_saw_132 : decode cX12_saw 132 = .ok (.iload_n 1, 1) := by decide +kernel
theorem dX12_saw_133 : decode cX12_saw 133 = .ok (.iconst 2, 1) := by decide +kernel
theorem dX12_saw_134 : decode cX12_saw 134 = .ok (.iload_n 3, 1) := by decide +kernel
theorem dX12_saw_135 : decode cX12_saw 135 = .ok (.invokevirtual 337, 3) := by decide +kernel
theorem dX12_saw_138 : decode cX12_saw 138 = .ok (.aload_n 0, 1) := by decide +kernel
theorem dX12_saw_139 : decode cX12_saw 139 = .ok (.iload_n 1, 1) := by decide +kernel
theorem dX12_saw_140 : decode cX12_saw 140 = .ok (.iconst 4, 1) := by decide +kernel
theorem dX12_saw_141 : decode cX12_saw 141 = .ok (.invokevirtual 70, 3) := by decide +kernel
theorem dX12_saw_144 : decode cX12_saw 144 = .ok (.ireturn, 1) := by decide +kernel
theorem dX12_store_0 : decode cX12_store 0 = .ok (.aload_n 0, 1) := by decide +kernel
theorem dX12_store_1 : decode cX12_store 1 = .ok (.iconst 0, 1) := by decide +kernel
theorem dX12_store_2 : decode cX12_store 2 = .ok (.putfield 3, 3) := by decide +kernel
theorem dX12_store_5 : decode cX12_store 5 = .ok (.aload_n 0, 1) := by decide +kernel
theorem dX12_store_6 : decode cX12_store 6 = .ok (.aload_n 0, 1) := by decide +kernel
theorem dX12_store_7 : decode cX12_store 7 = .ok (.iload_n 1, 1) := by decide +kernel
theorem dX12_store_8 : decode cX12_store 8 = .ok (.invokevirtual 315, 3) := by decide +kernel
theorem dX12_store_11 : decode cX12_store 11 = .ok (.iconst 1, 1) := by decide +kernel
theorem dX12_store_12 : decode cX12_store 12 = .ok (.invokevirtual 269, 3) := by decide +kernel
theorem dX12_store_15 : decode cX12_store 15 = .ok (.ifCond .ne 58, 3) := by decide +kernel
theorem dX12_store_18 : decode cX12_store 18 = .ok (.aload_n 0, 1) := by decide +kernel
theorem dX12_store_19 : decode cX12_store 19 = .ok (.iload_n 2, 1) := by decide +kernel
theorem dX12_store_20 : decode cX12_store 20 = .ok (.iconst 1, 1) := by decide +kernel
theorem dX12_store_21 : decode cX12_store 21 = .ok (.sipush 999, 3) := by decide +kernel
theorem dX12_store_24 : decode cX12_store 24 = .ok (.invokestatic 84, 3) := by decide +kernel
theorem dX12_store_27 : decode cX12_store 27 = .ok (.ifCond .ne 7, 3) := by decide +kernel
theorem dX12_store_30 : decode cX12_store 30 = .ok (.iconst 1, 1) := by decide +kernel
theorem dX12_store_31 : decode cX12_store 31 = .ok (.goto 4, 3) := by decide +kernel
theorem dX12_store_34 : decode cX12_store 34 = .ok (.iconst 0, 1) := by decide +kernel
theorem dX12_store_35 : decode cX12_store 35 = .ok (.iconst 2, 1) := by decide +kernel
theorem dX12_store_36 : decode cX12_store 36 = .ok (.invokevirtual 269, 3) := by decide +kernel
theorem dX12_store_39 : decode cX12_store 39 = .ok (.ifCond .ne 34, 3) := by decide +kernel
theorem dX12_store_42 : decode cX12_store 42 = .ok (.aload_n 0, 1) := by decide +kernel
theorem dX12_store_43 : decode cX12_store 43 = .ok (.aload_n 0, 1) := by decide +kernel
theorem dX12_store_44 : decode cX12_store 44 = .ok (.iload_n 1, 1) := by decide +kernel
theorem dX12_store_45 : decode cX12_store 45 = .ok (.invokevirtual 76, 3) := by decide +kernel
theorem dX12_store_48 : decode cX12_store 48 = .ok (.ifCond .ne 13, 3) := by decide +kernel
theorem dX12_store_51 : decode cX12_store 51 = .ok (.aload_n 0, 1) := by decide +kernel
theorem dX12_store_52 : decode cX12_store 52 = .ok (.iload_n 1, 1) := by decide +kernel
theorem dX12_store_53 : decode cX12_store 53 = .ok (.iconst 4, 1) := by decide +kernel
theorem dX12_store_54 : decode cX12_store 54 = .ok (.invokevirtual 70, 3) := by decide +kernel
theorem dX12_store_57 : decode cX12_store 57 = .ok (.iload_n 2, 1) := by decide +kernel
theorem dX12_store_58 : decode cX12_store 58 = .ok (.if_icmp .ge 7, 3) := by decide +kernel
theorem dX12_store_61 : decode cX12_store 61 = .ok (.iconst 1, 1) := by decide +kernel
theorem dX12_store_62 : decode cX12_store 62 = .ok (.goto 4, 3) := by decide +kernel
theorem dX12_store_65 : decode cX12_store 65 = .ok (.iconst 0, 1) := by decide +kernel
theorem dX12_store_66 : decode cX12_store 66 = .ok (.iconst 3, 1) := by decide +kernel
theorem dX12_store_67 : decode cX12_store 67 = .ok (.invokevirtual 269, 3) := by decide +kernel
theorem dX12_store_70 : decode cX12_store 70 = .ok (.ifCond .eq 5, 3) := by decide +kernel
theorem dX12_store_73 : decode cX12_store 73 = .ok (.iconst 0, 1) := by decide +kernel
theorem dX12_store_74 : decode cX12_store 74 = .ok (.ireturn, 1) := by decide +kernel
theorem dX12_store_75 : decode cX12_store 75 = .ok (.aload_n 0, 1) := by decide +kernel
theorem dX12_store_76 : decode cX12_store 76 = .ok (.invokevirtual 361, 3) := by decide +kernel
theorem dX12_store_79 : decode cX12_store 79 = .ok (.aload_n 0, 1) := by decide +kernel
theorem dX12_store_80 : decode cX12_store 80 = .ok (.getfield 13, 3) := by decide +kernel
theorem dX12_store_83 : decode cX12_store 83 = .ok (.iload_n 1, 1) := by decide +kernel
theorem dX12_store_84 : decode cX12_store 84 = .ok (.iconst 4, 1) := by decide +kernel
theorem dX12_store_85 : decode cX12_store 85 = .ok (.invokestatic 67, 3) := by decide +kernel
theorem dX12_store_88 : decode cX12_store 88 = .ok (.dup2, 1) := by decide +kernel
theorem dX12_store_89 : decode cX12_store 89 = .ok (.iaload, 1) := by decide +kernel
theorem dX12_store_90 : decode cX12_store 90 = .ok (.iload_n 2, 1) := by decide +kernel
theorem dX12_store_91 : decode cX12_store 91 = .ok (.isub, 1) := by decide +kernel
theorem dX12_store_92 : decode cX12_store 92 = .ok (.iastore, 1) := by decide +kernel
theorem dX12_store_93 : decode cX12_store 93 = .ok (.aload_n 0, 1) := by decide +kernel
theorem dX12_store_94 : decode cX12_store 94 = .ok (.iconst 5, 1) := by decide +kernel
theorem dX12_store_95 : decode cX12_store 95 = .ok (.iload_n 2, 1) := by decide +kernel
theorem dX12_store_96 : decode cX12_store 96 = .ok (.sipush 9999, 3) := by decide +kernel
theorem dX12_store_99 : decode cX12_store 99 = .ok (.invokevirtual 333, 3) := by decide +kernel
theorem dX12_store_102 : decode cX12_store 102 = .ok (.aload_n 0, 1) := by decide +kernel
theorem dX12_store_103 : decode cX12_store 103 = .ok (.iload_n 1, 1) := by decide +kernel
theorem dX12_store_104 : decode cX12_store 104 = .ok (.iconst 3, 1) := by decide +kernel
theorem dX12_store_105 : decode cX12_store 105 = .ok (.iload_n 2, 1) := by decide +kernel
theorem dX12_store_106 : decode cX12_store 106 = .ok (.invokevirtual 337, 3) := by decide +kernel
theorem dX12_store_109 : decode cX12_store 109 = .ok (.aload_n 0, 1) := by decide +kernel
theorem dX12_store_110 : decode cX12_store 110 = .ok (.getfield 13, 3) := by decide +kernel
theorem dX12_store_113 : decode cX12_store 113 = .ok (.iconst 5, 1) := by decide +kernel
theorem dX12_store_114 : decode cX12_store 114 = .ok (.iaload, 1) := by decide +kernel
theorem dX12_store_115 : decode cX12_store 115 = .ok (.ireturn, 1) := by decide +kernel
theorem dX12_deliver_0 : decode cX12_deliver 0 = .ok (.aload_n 0, 1) := by decide +kernel
theorem dX12_deliver_1 : decode cX12_deliver 1 = .ok (.iconst 0, 1) := by decide +kernel
theorem dX12_deliver_2 : decode cX12_deliver 2 = .ok (.putfield 3, 3) := by decide +kernel
theorem dX12_deliver_5 : decode cX12_deliver 5 = .ok (.aload_n 0, 1) := by decide +kernel
theorem dX12_deliver_6 : decode cX12_deliver 6 = .ok (.aload_n 0, 1) := by decide +kernel
theorem dX12_deliver_7 : decode cX12_deliver 7 = .ok (.iload_n 1, 1) := by decide +kernel
theorem dX12_deliver_8 : decode cX12_deliver 8 = .ok (.invokevirtual 301, 3) := by decide +kernel
theorem dX12_deliver_11 : decode cX12_deliver 11 = .ok (.iconst 1, 1) := by decide +kernel
theorem dX12_deliver_12 : decode cX12_deliver 12 = .ok (.invokevirtual 269, 3) := by decide +kernel
theorem dX12_deliver_15 : decode cX12_deliver 15 = .ok (.ifCond .ne 50, 3) := by decide +kernel
theorem dX12_deliver_18 : decode cX12_deliver 18 = .ok (.aload_n 0, 1) := by decide +kernel
theorem dX12_deliver_19 : decode cX12_deliver 19 = .ok (.iload_n 2, 1) := by decide +kernel
theorem dX12_deliver_20 : decode cX12_deliver 20 = .ok (.iconst 1, 1) := by decide +kernel
theorem dX12_deliver_21 : decode cX12_deliver 21 = .ok (.sipush 999, 3) := by decide +kernel
theorem dX12_deliver_24 : decode cX12_deliver 24 = .ok (.invokestatic 84, 3) := by decide +kernel
theorem dX12_deliver_27 : decode cX12_deliver 27 = .ok (.ifCond .ne 7, 3) := by decide +kernel
theorem dX12_deliver_30 : decode cX12_deliver 30 = .ok (.iconst 1, 1) := by decide +kernel
theorem dX12_deliver_31 : decode cX12_deliver 31 = .ok (.goto 4, 3) := by decide +kernel
theorem dX12_deliver_34 : decode cX12_deliver 34 = .ok (.iconst 0, 1) := by decide +kernel
theorem dX12_deliver_35 : decode cX12_deliver 35 = .ok (.iconst 2, 1) := by decide +kernel
theorem dX12_deliver_36 : decode cX12_deliver 36 = .ok (.invokevirtual 269, 3) := by decide +kernel
theorem dX12_deliver_39 : decode cX12_deliver 39 = .ok (.ifCond .ne 26, 3) := by decide +kernel
theorem dX12_deliver_42 : decode cX12_deliver 42 = .ok (.aload_n 0, 1) := by decide +kernel
theorem dX12_deliver_43 : decode cX12_deliver 43 = .ok (.aload_n 0, 1) := by decide +kernel
theorem dX12_deliver_44 : decode cX12_deliver 44 = .ok (.getfield 13, 3) := by decide +kernel
theorem dX12_deliver_47 : decode cX12_deliver 47 = .ok (.iconst 5, 1) := by decide +kernel
theorem dX12_deliver_48 : decode cX12_deliver 48 = .ok (.iaload, 1) := by decide +kernel
theorem dX12_deliver_49 : decode cX12_deliver 49 = .ok (.iload_n 2, 1) := by decide +kernel
theorem dX12_deliver_50 : decode cX12_deliver 50 = .ok (.if_icmp .ge 7, 3) := by decide +kernel
theorem dX12_deliver_53 : decode cX12_deliver 53 = .ok (.iconst 1, 1) := by decide +kernel
theorem dX12_deliver_54 : decode cX12_deliver 54 = .ok (.goto 4, 3) := by decide +kernel
theorem dX12_deliver_57 : decode cX12_deliver 57 = .ok (.iconst 0, 1) := by decide +kernel
theorem dX12_deliver_58 : decode cX12_deliver 58 = .ok (.iconst 3, 1) := by decide +kernel
theorem dX12_deliver_59 : decode cX12_deliver 59 = .ok (.invokevirtual 269, 3) := by decide +kernel
theorem dX12_deliver_62 : decode cX12_deliver 62 = .ok (.ifCond .eq 5, 3) := by decide +kernel
theorem dX12_deliver_65 : decode cX12_deliver 65 = .ok (.iconst 0, 1) := by decide +kernel
theorem dX12_deliver_66 : decode cX12_deliver 66 = .ok (.ireturn, 1) := by decide +kernel
theorem dX12_deliver_67 : decode cX12_deliver 67 = .ok (.aload_n 0, 1) := by decide +kernel
theorem dX12_deliver_68 : decode cX12_deliver 68 = .ok (.invokevirtual 361, 3) := by decide +kernel
theorem dX12_deliver_71 : decode cX12_deliver 71 = .ok (.aload_n 0, 1) := by decide +kernel
theorem dX12_deliver_72 : decode cX12_deliver 72 = .ok (.getfield 13, 3) := by decide +kernel
theorem dX12_deliver_75 : decode cX12_deliver 75 = .ok (.iconst 5, 1) := by decide +kernel
theorem dX12_deliver_76 : decode cX12_deliver 76 = .ok (.dup2, 1) := by decide +kernel
theorem dX12_deliver_77 : decode cX12_deliver 77 = .ok (.iaload, 1) := by decide +kernel
theorem dX12_deliver_78 : decode cX12_deliver 78 = .ok (.iload_n 2, 1) := by decide +kernel
theorem dX12_deliver_79 : decode cX12_deliver 79 = .ok (.isub, 1) := by decide +kernel
theorem dX12_deliver_80 : decode cX12_deliver 80 = .ok (.iastore, 1) := by decide +kernel
theorem dX12_deliver_81 : decode cX12_deliver 81 = .ok (.aload_n 0, 1) := by decide +kernel
theorem dX12_deliver_82 : decode cX12_deliver 82 = .ok (.iload_n 1, 1) := by decide +kernel
theorem dX12_deliver_83 : decode cX12_deliver 83 = .ok (.iconst 2, 1) := by decide +kernel
theorem dX12_deliver_84 : decode cX12_deliver 84 = .ok (.invokestatic 63, 3) := by decide +kernel
theorem dX12_deliver_87 : decode cX12_deliver 87 = .ok (.iload_n 2, 1) := by decide +kernel
theorem dX12_deliver_88 : decode cX12_deliver 88 = .ok (.sipush 999, 3) := by decide +kernel
theorem dX12_deliver_91 : decode cX12_deliver 91 = .ok (.invokevirtual 333, 3) := by decide +kernel
theorem dX12_deliver_94 : decode cX12_deliver 94 = .ok (.aload_n 0, 1) := by decide +kernel
theorem dX12_deliver_95 : decode cX12_deliver 95 = .ok (.iload_n 1, 1) := by decide +kernel
theorem dX12_deliver_96 : decode cX12_deliver 96 = .ok (.iconst 2, 1) := by decide +kernel
theorem dX12_deliver_97 : decode cX12_deliver 97 = .ok (.invokevirtual 272, 3) := by decide +kernel
theorem dX12_deliver_100 : decode cX12_deliver 100 = .ok (.ireturn, 1) := by decide +kernel
theorem dX12_prop_0 : decode cX12_prop 0 = .ok (.aload_n 0, 1) := by decide +kernel
theorem dX12_prop_1 : decode cX12_prop 1 = .ok (.iconst 0, 1) := by decide +kernel
theorem dX12_prop_2 : decode cX12_prop 2 = .ok (.putfield 3, 3) := by decide +kernel
theorem dX12_prop_5 : decode cX12_prop 5 = .ok (.aload_n 0, 1) := by decide +kernel
theorem dX12_prop_6 : decode cX12_prop 6 = .ok (.invokevirtual 361, 3) := by decide +kernel
theorem dX12_prop_9 : decode cX12_prop 9 = .ok (.aload_n 0, 1) := by decide +kernel
theorem dX12_prop_10 : decode cX12_prop 10 = .ok (.getfield 13, 3) := by decide +kernel
theorem dX12_prop_13 : decode cX12_prop 13 = .ok (.bipush 6, 2) := by decide +kernel
theorem dX12_prop_15 : decode cX12_prop 15 = .ok (.iaload, 1) := by decide +kernel
theorem dX12_prop_16 : decode cX12_prop 16 = .ok (.iconst 1, 1) := by decide +kernel
theorem dX12_prop_17 : decode cX12_prop 17 = .ok (.if_icmp .ne 7, 3) := by decide +kernel
theorem dX12_prop_20 : decode cX12_prop 20 = .ok (.iconst 1, 1) := by decide +kernel
theorem dX12_prop_21 : decode cX12_prop 21 = .ok (.goto 4, 3) := by decide +kernel
theorem dX12_prop_24 : decode cX12_prop 24 = .ok (.iconst 0, 1) := by decide +kernel
theorem dX12_prop_25 : decode cX12_prop 25 = .ok (.istore_n 2, 1) := by decide +kernel
theorem dX12_prop_26 : decode cX12_prop 26 = .ok (.aload_n 0, 1) := by decide +kernel
theorem dX12_prop_27 : decode cX12_prop 27 = .ok (.getfield 13, 3) := by decide +kernel
theorem dX12_prop_30 : decode cX12_prop 30 = .ok (.bipush 6, 2) := by decide +kernel
theorem dX12_prop_32 : decode cX12_prop 32 = .ok (.iload_n 1, 1) := by decide +kernel
theorem dX12_prop_33 : decode cX12_prop 33 = .ok (.ifCond .eq 7, 3) := by decide +kernel
theorem dX12_prop_36 : decode cX12_prop 36 = .ok (.iconst 1, 1) := by decide +kernel
theorem dX12_prop_37 : decode cX12_prop 37 = .ok (.goto 4, 3) := by decide +kernel
theorem dX12_prop_40 : decode cX12_prop 40 = .ok (.iconst 0, 1) := by decide +kernel
theorem dX12_prop_41 : decode cX12_prop 41 = .ok (.iastore, 1) := by decide +kernel
theorem dX12_prop_42 : decode cX12_prop 42 = .ok (.iload_n 2, 1) := by decide +kernel
theorem dX12_prop_43 : decode cX12_prop 43 = .ok (.iload_n 1, 1) := by decide +kernel
theorem dX12_prop_44 : decode cX12_prop 44 = .ok (.if_icmp .eq 7, 3) := by decide +kernel
theorem dX12_prop_47 : decode cX12_prop 47 = .ok (.iconst 1, 1) := by decide +kernel
theorem dX12_prop_48 : decode cX12_prop 48 = .ok (.goto 4, 3) := by decide +kernel
theorem dX12_prop_51 : decode cX12_prop 51 = .ok (.iconst 0, 1) := by decide +kernel
theorem dX12_prop_52 : decode cX12_prop 52 = .ok (.ireturn, 1) := by decide +kernel
theorem dX12_cold_0 : decode cX12_cold 0 = .ok (.aload_n 0, 1) := by decide +kernel
theorem dX12_cold_1 : decode cX12_cold 1 = .ok (.iconst 0, 1) := by decide +kernel
theorem dX12_cold_2 : decode cX12_cold 2 = .ok (.putfield 3, 3) := by decide +kernel
theorem dX12_cold_5 : decode cX12_cold 5 = .ok (.aload_n 0, 1) := by decide +kernel
theorem dX12_cold_6 : decode cX12_cold 6 = .ok (.aload_n 0, 1) := by decide +kernel
theorem dX12_cold_7 : decode cX12_cold 7 = .ok (.invokevirtual 291, 3) := by decide +kernel
theorem dX12_cold_10 : decode cX12_cold 10 = .ok (.invokevirtual 294, 3) := by decide +kernel
theorem dX12_cold_13 : decode cX12_cold 13 = .ok (.aload_n 0, 1) := by decide +kernel
theorem dX12_cold_14 : decode cX12_cold 14 = .ok (.getfield 13, 3) := by decide +kernel
theorem dX12_cold_17 : decode cX12_cold 17 = .ok (.iconst 5, 1) := by decide +kernel
theorem dX12_cold_18 : decode cX12_cold 18 = .ok (.iaload, 1) := by decide +kernel
theorem dX12_cold_19 : decode cX12_cold 19 = .ok (.iadd, 1) := by decide +kernel
theorem dX12_cold_20 : decode cX12_cold 20 = .ok (.ireturn, 1) := by decide +kernel
theorem dX12_lastsOf_0 : decode cX12_lastsOf 0 = .ok (.aload_n 0, 1) := by decide +kernel
theorem dX12_lastsOf_1 : decode cX12_lastsOf 1 = .ok (.iload_n 1, 1) := by decide +kernel
theorem dX12_lastsOf_2 : decode cX12_lastsOf 2 = .ok (.iconst 3, 1) := by decide +kernel
theorem dX12_lastsOf_3 : decode cX12_lastsOf 3 = .ok (.invokevirtual 272, 3) := by decide +kernel
theorem dX12_lastsOf_6 : decode cX12_lastsOf 6 = .ok (.istore_n 2, 1) := by decide +kernel
theorem dX12_lastsOf_7 : decode cX12_lastsOf 7 = .ok (.iconst (-1), 1) := by decide +kernel
theorem dX12_lastsOf_8 : decode cX12_lastsOf 8 = .ok (.istore_n 3, 1) := by decide +kernel
theorem dX12_lastsOf_9 : decode cX12_lastsOf 9 = .ok (.aload_n 0, 1) := by decide +kernel
theorem dX12_lastsOf_10 : decode cX12_lastsOf 10 = .ok (.invokevirtual 371, 3) := by decide +kernel
theorem dX12_lastsOf_13 : decode cX12_lastsOf 13 = .ok (.iconst 0, 1) := by decide +kernel
theorem dX12_lastsOf_14 : decode cX12_lastsOf 14 = .ok (.istore 4, 2) := by decide +kernel
theorem dX12_lastsOf_16 : decode cX12_lastsOf 16 = .ok (.iload 4, 2) := by decide +kernel
theorem dX12_lastsOf_18 : decode cX12_lastsOf 18 = .ok (.bipush 60, 2) := by decide +kernel
theorem dX12_lastsOf_20 : decode cX12_lastsOf 20 = .ok (.if_icmp .gt 37, 3) := by decide +kernel
theorem dX12_lastsOf_23 : decode cX12_lastsOf 23 = .ok (.iload_n 3, 1) := by decide +kernel
theorem dX12_lastsOf_24 : decode cX12_lastsOf 24 = .ok (.iconst (-1), 1) := by decide +kernel
theorem dX12_lastsOf_25 : decode cX12_lastsOf 25 = .ok (.if_icmp .ne 32, 3) := by decide +kernel
theorem dX12_lastsOf_28 : decode cX12_lastsOf 28 = .ok (.aload_n 0, 1) := by decide +kernel
theorem dX12_lastsOf_29 : decode cX12_lastsOf 29 = .ok (.iload_n 1, 1) := by decide +kernel
theorem dX12_lastsOf_30 : decode cX12_lastsOf 30 = .ok (.iconst 3, 1) := by decide +kernel
theorem dX12_lastsOf_31 : decode cX12_lastsOf 31 = .ok (.invokevirtual 272, 3) := by decide +kernel
theorem dX12_lastsOf_34 : decode cX12_lastsOf 34 = .ok (.iload_n 2, 1) := by decide +kernel
theorem dX12_lastsOf_35 : decode cX12_lastsOf 35 = .ok (.if_icmp .le 8, 3) := by decide +kernel
theorem dX12_lastsOf_38 : decode cX12_lastsOf 38 = .ok (.iload 4, 2) := by decide +kernel
theorem dX12_lastsOf_40 : decode cX12_lastsOf 40 = .ok (.goto 4, 3) := by decide +kernel
theorem dX12_lastsOf_43 : decode cX12_lastsOf 43 = .ok (.iconst (-1), 1) := by decide +kernel
theorem dX12_lastsOf_44 : decode cX12_lastsOf 44 = .ok (.istore_n 3, 1) := by decide +kernel
theorem dX12_lastsOf_45 : decode cX12_lastsOf 45 = .ok (.aload_n 0, 1) := by decide +kernel
theorem dX12_lastsOf_46 : decode cX12_lastsOf 46 = .ok (.iconst 1, 1) := by decide +kernel
theorem dX12_lastsOf_47 : decode cX12_lastsOf 47 = .ok (.invokevirtual 358, 3) := by decide +kernel
theorem dX12_lastsOf_50 : decode cX12_lastsOf 50 = .ok (.pop, 1) := by decide +kernel
theorem dX12_lastsOf_51 : decode cX12_lastsOf 51 = .ok (.iinc 4 1, 3) := by decide +kernel
theorem dX12_lastsOf_54 : decode cX12_lastsOf 54 = .ok (.goto (-38), 3) := by decide +kernel
theorem dX12_lastsOf_57 : decode cX12_lastsOf 57 = .ok (.aload_n 0, 1) := by decide +kernel
theorem dX12_lastsOf_58 : decode cX12_lastsOf 58 = .ok (.invokevirtual 374, 3) := by decide +kernel
theorem dX12_lastsOf_61 : decode cX12_lastsOf 61 = .ok (.iload_n 3, 1) := by decide +kernel
theorem dX12_lastsOf_62 : decode cX12_lastsOf 62 = .ok (.ireturn, 1) := by decide +kernel
theorem dX12_stock_0 : decode cX12_stock 0 = .ok (.aload_n 0, 1) := by decide +kernel
theorem dX12_stock_1 : decode cX12_stock 1 = .ok (.iconst 0, 1) := by decide +kernel
theorem dX12_stock_2 : decode cX12_stock 2 = .ok (.putfield 3, 3) := by decide +kernel
theorem dX12_stock_5 : decode cX12_stock 5 = .ok (.iconst (-1), 1) := by decide +kernel
theorem dX12_stock_6 : decode cX12_stock 6 = .ok (.istore_n 1, 1) := by decide +kernel
theorem dX12_stock_7 : decode cX12_stock 7 = .ok (.aload_n 0, 1) := by decide +kernel
theorem dX12_stock_8 : decode cX12_stock 8 = .ok (.invokevirtual 371, 3) := by decide +kernel
theorem dX12_stock_11 : decode cX12_stock 11 = .ok (.iconst 0, 1) := by decide +kernel
theorem dX12_stock_12 : decode cX12_stock 12 = .ok (.istore_n 2, 1) := by decide +kernel
theorem dX12_stock_13 : decode cX12_stock 13 = .ok (.iload_n 2, 1) := by decide +kernel
theorem dX12_stock_14 : decode cX12_stock 14 = .ok (.bipush 60, 2) := by decide +kernel
theorem dX12_stock_16 : decode cX12_stock 16 = .ok (.if_icmp .gt 35, 3) := by decide +kernel
theorem dX12_stock_19 : decode cX12_stock 19 = .ok (.iload_n 1, 1) := by decide +kernel
theorem dX12_stock_20 : decode cX12_stock 20 = .ok (.iconst (-1), 1) := by decide +kernel
theorem dX12_stock_21 : decode cX12_stock 21 = .ok (.if_icmp .ne 30, 3) := by decide +kernel
theorem dX12_stock_24 : decode cX12_stock 24 = .ok (.aload_n 0, 1) := by decide +kernel
theorem dX12_stock_25 : decode cX12_stock 25 = .ok (.getfield 13, 3) := by decide +kernel
theorem dX12_stock_28 : decode cX12_stock 28 = .ok (.iconst 5, 1) := by decide +kernel
theorem dX12_stock_29 : decode cX12_stock 29 = .ok (.iaload, 1) := by decide +kernel
theorem dX12_stock_30 : decode cX12_stock 30 = .ok (.ifCond .ne 7, 3) := by decide +kernel
theorem dX12_stock_33 : decode cX12_stock 33 = .ok (.iload_n 2, 1) := by decide +kernel
theorem dX12_stock_34 : decode cX12_stock 34 = .ok (.goto 4, 3) := by decide +kernel
theorem dX12_stock_37 : decode cX12_stock 37 = .ok (.iconst (-1), 1) := by decide +kernel
theorem dX12_stock_38 : decode cX12_stock 38 = .ok (.istore_n 1, 1) := by decide +kernel
theorem dX12_stock_39 : decode cX12_stock 39 = .ok (.aload_n 0, 1) := by decide +kernel
theorem dX12_stock_40 : decode cX12_stock 40 = .ok (.iconst 1, 1) := by decide +kernel
theorem dX12_stock_41 : decode cX12_stock 41 = .ok (.invokevirtual 358, 3) := by decide +kernel
theorem dX12_stock_44 : decode cX12_stock 44 = .ok (.pop, 1) := by decide +kernel
theorem dX12_stock_45 : decode cX12_stock 45 = .ok (.iinc 2 1, 3) := by decide +kernel
theorem dX12_stock_48 : decode cX12_stock 48 = .ok (.goto (-35), 3) := by decide +kernel
theorem dX12_stock_51 : decode cX12_stock 51 = .ok (.aload_n 0, 1) := by decide +kernel
theorem dX12_stock_52 : decode cX12_stock 52 = .ok (.invokevirtual 374, 3) := by decide +kernel
theorem dX12_stock_55 : decode cX12_stock 55 = .ok (.iload_n 1, 1) := by decide +kernel
theorem dX12_stock_56 : decode cX12_stock 56 = .ok (.ireturn, 1) := by decide +kernel
theorem dX12_scarce_0 : decode cX12_scarce 0 = .ok (.aload_n 0, 1) := by decide +kernel
theorem dX12_scarce_1 : decode cX12_scarce 1 = .ok (.iconst 0, 1) := by decide +kernel
theorem dX12_scarce_2 : decode cX12_scarce 2 = .ok (.putfield 3, 3) := by decide +kernel
theorem dX12_scarce_5 : decode cX12_scarce 5 = .ok (.iconst (-1), 1) := by decide +kernel
theorem dX12_scarce_6 : decode cX12_scarce 6 = .ok (.istore_n 1, 1) := by decide +kernel
theorem dX12_scarce_7 : decode cX12_scarce 7 = .ok (.ldc_w 377, 3) := by decide +kernel
theorem dX12_scarce_10 : decode cX12_scarce 10 = .ok (.istore_n 2, 1) := by decide +kernel
theorem dX12_scarce_11 : decode cX12_scarce 11 = .ok (.iconst 0, 1) := by decide +kernel
theorem dX12_scarce_12 : decode cX12_scarce 12 = .ok (.istore_n 3, 1) := by decide +kernel
theorem dX12_scarce_13 : decode cX12_scarce 13 = .ok (.iload_n 3, 1) := by decide +kernel
theorem dX12_scarce_14 : decode cX12_scarce 14 = .ok (.aload_n 0, 1) := by decide +kernel
theorem dX12_scarce_15 : decode cX12_scarce 15 = .ok (.invokevirtual 59, 3) := by decide +kernel
theorem dX12_scarce_18 : decode cX12_scarce 18 = .ok (.if_icmp .ge 36, 3) := by decide +kernel
theorem dX12_scarce_21 : decode cX12_scarce 21 = .ok (.aload_n 0, 1) := by decide +kernel
theorem dX12_scarce_22 : decode cX12_scarce 22 = .ok (.iload_n 3, 1) := by decide +kernel
theorem dX12_scarce_23 : decode cX12_scarce 23 = .ok (.invokevirtual 307, 3) := by decide +kernel
theorem dX12_scarce_26 : decode cX12_scarce 26 = .ok (.istore 4, 2) := by decide +kernel
theorem dX12_scarce_28 : decode cX12_scarce 28 = .ok (.iload 4, 2) := by decide +kernel
theorem dX12_scarce_30 : decode cX12_scarce 30 = .ok (.iconst (-1), 1) := by decide +kernel
theorem dX12_scarce_31 : decode cX12_scarce 31 = .ok (.if_icmp .eq 17, 3) := by decide +kernel
theorem dX12_scarce_34 : decode cX12_scarce 34 = .ok (.iload 4, 2) := by decide +kernel
theorem dX12_scarce_36 : decode cX12_scarce 36 = .ok (.iload_n 2, 1) := by decide +kernel
theorem dX12_scarce_37 : decode cX12_scarce 37 = .ok (.if_icmp .lt 6, 3) := by decide +kernel
theorem dX12_scarce_40 : decode cX12_scarce 40 = .ok (.goto 8, 3) := by decide +kernel
theorem dX12_scarce_43 : decode cX12_scarce 43 = .ok (.iload_n 3, 1) := by decide +kernel
theorem dX12_scarce_44 : decode cX12_scarce 44 = .ok (.istore_n 1, 1) := by decide +kernel
theorem dX12_scarce_45 : decode cX12_scarce 45 = .ok (.iload 4, 2) := by decide +kernel
theorem dX12_scarce_47 : decode cX12_scarce 47 = .ok (.istore_n 2, 1) := by decide +kernel
theorem dX12_scarce_48 : decode cX12_scarce 48 = .ok (.iinc 3 1, 3) := by decide +kernel
theorem dX12_scarce_51 : decode cX12_scarce 51 = .ok (.goto (-38), 3) := by decide +kernel
theorem dX12_scarce_54 : decode cX12_scarce 54 = .ok (.iload_n 1, 1) := by decide +kernel
theorem dX12_scarce_55 : decode cX12_scarce 55 = .ok (.ireturn, 1) := by decide +kernel
theorem dX12_hot_0 : decode cX12_hot 0 = .ok (.aload_n 0, 1) := by decide +kernel
theorem dX12_hot_1 : decode cX12_hot 1 = .ok (.iconst 0, 1) := by decide +kernel
theorem dX12_hot_2 : decode cX12_hot 2 = .ok (.putfield 3, 3) := by decide +kernel
theorem dX12_hot_5 : decode cX12_hot 5 = .ok (.iconst (-1), 1) := by decide +kernel
theorem dX12_hot_6 : decode cX12_hot 6 = .ok (.istore_n 1, 1) := by decide +kernel
theorem dX12_hot_7 : decode cX12_hot 7 = .ok (.aload_n 0, 1) := by decide +kernel
theorem dX12_hot_8 : decode cX12_hot 8 = .ok (.invokevirtual 371, 3) := by decide +kernel
theorem dX12_hot_11 : decode cX12_hot 11 = .ok (.iconst 1, 1) := by decide +kernel
theorem dX12_hot_12 : decode cX12_hot 12 = .ok (.istore_n 2, 1) := by decide +kernel
theorem dX12_hot_13 : decode cX12_hot 13 = .ok (.iload_n 2, 1) := by decide +kernel
theorem dX12_hot_14 : decode cX12_hot 14 = .ok (.bipush 60, 2) := by decide +kernel
theorem dX12_hot_16 : decode cX12_hot 16 = .ok (.if_icmp .gt 28, 3) := by decide +kernel
theorem dX12_hot_19 : decode cX12_hot 19 = .ok (.iload_n 1, 1) := by decide +kernel
theorem dX12_hot_20 : decode cX12_hot 20 = .ok (.iconst (-1), 1) := by decide +kernel
theorem dX12_hot_21 : decode cX12_hot 21 = .ok (.if_icmp .ne 23, 3) := by decide +kernel
theorem dX12_hot_24 : decode cX12_hot 24 = .ok (.aload_n 0, 1) := by decide +kernel
theorem dX12_hot_25 : decode cX12_hot 25 = .ok (.iconst 1, 1) := by decide +kernel
theorem dX12_hot_26 : decode cX12_hot 26 = .ok (.invokevirtual 358, 3) := by decide +kernel
theorem dX12_hot_29 : decode cX12_hot 29 = .ok (.ifCond .le 7, 3) := by decide +kernel
theorem dX12_hot_32 : decode cX12_hot 32 = .ok (.iload_n 2, 1) := by decide +kernel
theorem dX12_hot_33 : decode cX12_hot 33 = .ok (.goto 4, 3) := by decide +kernel
theorem dX12_hot_36 : decode cX12_hot 36 = .ok (.iconst (-1), 1) := by decide +kernel
theorem dX12_hot_37 : decode cX12_hot 37 = .ok (.istore_n 1, 1) := by decide +kernel
theorem dX12_hot_38 : decode cX12_hot 38 = .ok (.iinc 2 1, 3) := by decide +kernel
theorem dX12_hot_41 : decode cX12_hot 41 = .ok (.goto (-28), 3) := by decide +kernel
theorem dX12_hot_44 : decode cX12_hot 44 = .ok (.aload_n 0, 1) := by decide +kernel
theorem dX12_hot_45 : decode cX12_hot 45 = .ok (.invokevirtual 374, 3) := by decide +kernel
theorem dX12_hot_48 : decode cX12_hot 48 = .ok (.iload_n 1, 1) := by decide +kernel
theorem dX12_hot_49 : decode cX12_hot 49 = .ok (.ireturn, 1) := by decide +kernel
theorem dX12_noAhead_0 : decode cX12_noAhead 0 = .ok (.iload_n 0, 1) := by decide +kernel
theorem dX12_noAhead_1 : decode cX12_noAhead 1 = .ok (.iconst 0, 1) := by decide +kernel
theorem dX12_noAhead_2 : decode cX12_noAhead 2 = .ok (.bipush 60, 2) := by decide +kernel
theorem dX12_noAhead_4 : decode cX12_noAhead 4 = .ok (.invokestatic 84, 3) := by decide +kernel
theorem dX12_noAhead_7 : decode cX12_noAhead 7 = .ok (.ifCond .ne 7, 3) := by decide +kernel
theorem dX12_noAhead_10 : decode cX12_noAhead 10 = .ok (.iconst 1, 1) := by decide +kernel
theorem dX12_noAhead_11 : decode cX12_noAhead 11 = .ok (.goto 4, 3) := by decide +kernel
theorem dX12_noAhead_14 : decode cX12_noAhead 14 = .ok (.iconst 0, 1) := by decide +kernel
theorem dX12_noAhead_15 : decode cX12_noAhead 15 = .ok (.ireturn, 1) := by decide +kernel
theorem dX12_ahead_0 : decode cX12_ahead 0 = .ok (.aload_n 0, 1) := by decide +kernel
theorem dX12_ahead_1 : decode cX12_ahead 1 = .ok (.iconst 0, 1) := by decide +kernel
theorem dX12_ahead_2 : decode cX12_ahead 2 = .ok (.putfield 3, 3) := by decide +kernel
theorem dX12_ahead_5 : decode cX12_ahead 5 = .ok (.aload_n 0, 1) := by decide +kernel
theorem dX12_ahead_6 : decode cX12_ahead 6 = .ok (.aload_n 0, 1) := by decide +kernel
theorem dX12_ahead_7 : decode cX12_ahead 7 = .ok (.iload_n 1, 1) := by decide +kernel
theorem dX12_ahead_8 : decode cX12_ahead 8 = .ok (.invokevirtual 315, 3) := by decide +kernel
theorem dX12_ahead_11 : decode cX12_ahead 11 = .ok (.iconst 1, 1) := by decide +kernel
theorem dX12_ahead_12 : decode cX12_ahead 12 = .ok (.invokevirtual 269, 3) := by decide +kernel
theorem dX12_ahead_15 : decode cX12_ahead 15 = .ok (.ifCond .ne 15, 3) := by decide +kernel
theorem dX12_ahead_18 : decode cX12_ahead 18 = .ok (.aload_n 0, 1) := by decide +kernel
theorem dX12_ahead_19 : decode cX12_ahead 19 = .ok (.iload_n 2, 1) := by decide +kernel
theorem dX12_ahead_20 : decode cX12_ahead 20 = .ok (.invokestatic 378, 3) := by decide +kernel
theorem dX12_ahead_23 : decode cX12_ahead 23 = .ok (.iconst 2, 1) := by decide +kernel
theorem dX12_ahead_24 : decode cX12_ahead 24 = .ok (.invokevirtual 269, 3) := by decide +kernel
theorem dX12_ahead_27 : decode cX12_ahead 27 = .ok (.ifCond .eq 5, 3) := by decide +kernel
theorem dX12_ahead_30 : decode cX12_ahead 30 = .ok (.iconst 0, 1) := by decide +kernel
theorem dX12_ahead_31 : decode cX12_ahead 31 = .ok (.ireturn, 1) := by decide +kernel
theorem dX12_ahead_32 : decode cX12_ahead 32 = .ok (.aload_n 0, 1) := by decide +kernel
theorem dX12_ahead_33 : decode cX12_ahead 33 = .ok (.invokevirtual 371, 3) := by decide +kernel
theorem dX12_ahead_36 : decode cX12_ahead 36 = .ok (.aload_n 0, 1) := by decide +kernel
theorem dX12_ahead_37 : decode cX12_ahead 37 = .ok (.iload_n 2, 1) := by decide +kernel
theorem dX12_ahead_38 : decode cX12_ahead 38 = .ok (.iconst 1, 1) := by decide +kernel
theorem dX12_ahead_39 : decode cX12_ahead 39 = .ok (.invokevirtual 364, 3) := by decide +kernel
theorem dX12_ahead_42 : decode cX12_ahead 42 = .ok (.pop, 1) := by decide +kernel
theorem dX12_ahead_43 : decode cX12_ahead 43 = .ok (.aload_n 0, 1) := by decide +kernel
theorem dX12_ahead_44 : decode cX12_ahead 44 = .ok (.iload_n 1, 1) := by decide +kernel
theorem dX12_ahead_45 : decode cX12_ahead 45 = .ok (.iconst 4, 1) := by decide +kernel
theorem dX12_ahead_46 : decode cX12_ahead 46 = .ok (.invokevirtual 70, 3) := by decide +kernel
theorem dX12_ahead_49 : decode cX12_ahead 49 = .ok (.istore_n 3, 1) := by decide +kernel
theorem dX12_ahead_50 : decode cX12_ahead 50 = .ok (.aload_n 0, 1) := by decide +kernel
theorem dX12_ahead_51 : decode cX12_ahead 51 = .ok (.invokevirtual 374, 3) := by decide +kernel
theorem dX12_ahead_54 : decode cX12_ahead 54 = .ok (.iload_n 3, 1) := by decide +kernel
theorem dX12_ahead_55 : decode cX12_ahead 55 = .ok (.ireturn, 1) := by decide +kernel
theorem dX12_larder_0 : decode cX12_larder 0 = .ok (.aload_n 0, 1) := by decide +kernel
theorem dX12_larder_1 : decode cX12_larder 1 = .ok (.iconst 0, 1) := by decide +kernel
theorem dX12_larder_2 : decode cX12_larder 2 = .ok (.putfield 3, 3) := by decide +kernel
theorem dX12_larder_5 : decode cX12_larder 5 = .ok (.aload_n 0, 1) := by decide +kernel
theorem dX12_larder_6 : decode cX12_larder 6 = .ok (.aload_n 0, 1) := by decide +kernel
theorem dX12_larder_7 : decode cX12_larder 7 = .ok (.iload_n 1, 1) := by decide +kernel
theorem dX12_larder_8 : decode cX12_larder 8 = .ok (.invokevirtual 301, 3) := by decide +kernel
theorem dX12_larder_11 : decode cX12_larder 11 = .ok (.iconst 1, 1) := by decide +kernel
theorem dX12_larder_12 : decode cX12_larder 12 = .ok (.invokevirtual 269, 3) := by decide +kernel
theorem dX12_larder_15 : decode cX12_larder 15 = .ok (.ifCond .ne 15, 3) := by decide +kernel
theorem dX12_larder_18 : decode cX12_larder 18 = .ok (.aload_n 0, 1) := by decide +kernel
theorem dX12_larder_19 : decode cX12_larder 19 = .ok (.iload_n 2, 1) := by decide +kernel
theorem dX12_larder_20 : decode cX12_larder 20 = .ok (.invokestatic 378, 3) := by decide +kernel
theorem dX12_larder_23 : decode cX12_larder 23 = .ok (.iconst 2, 1) := by decide +kernel
theorem dX12_larder_24 : decode cX12_larder 24 = .ok (.invokevirtual 269, 3) := by decide +kernel
theorem dX12_larder_27 : decode cX12_larder 27 = .ok (.ifCond .eq 5, 3) := by decide +kernel
theorem dX12_larder_30 : decode cX12_larder 30 = .ok (.iconst 0, 1) := by decide +kernel
theorem dX12_larder_31 : decode cX12_larder 31 = .ok (.ireturn, 1) := by decide +kernel
theorem dX12_larder_32 : decode cX12_larder 32 = .ok (.aload_n 0, 1) := by decide +kernel
theorem dX12_larder_33 : decode cX12_larder 33 = .ok (.invokevirtual 371, 3) := by decide +kernel
theorem dX12_larder_36 : decode cX12_larder 36 = .ok (.aload_n 0, 1) := by decide +kernel
theorem dX12_larder_37 : decode cX12_larder 37 = .ok (.iload_n 2, 1) := by decide +kernel
theorem dX12_larder_38 : decode cX12_larder 38 = .ok (.iconst 1, 1) := by decide +kernel
theorem dX12_larder_39 : decode cX12_larder 39 = .ok (.invokevirtual 364, 3) := by decide +kernel
theorem dX12_larder_42 : decode cX12_larder 42 = .ok (.pop, 1) := by decide +kernel
theorem dX12_larder_43 : decode cX12_larder 43 = .ok (.aload_n 0, 1) := by decide +kernel
theorem dX12_larder_44 : decode cX12_larder 44 = .ok (.iload_n 1, 1) := by decide +kernel
theorem dX12_larder_45 : decode cX12_larder 45 = .ok (.iconst 2, 1) := by decide +kernel
theorem dX12_larder_46 : decode cX12_larder 46 = .ok (.invokevirtual 272, 3) := by decide +kernel
theorem dX12_larder_49 : decode cX12_larder 49 = .ok (.istore_n 3, 1) := by decide +kernel
theorem dX12_larder_50 : decode cX12_larder 50 = .ok (.aload_n 0, 1) := by decide +kernel
theorem dX12_larder_51 : decode cX12_larder 51 = .ok (.invokevirtual 374, 3) := by decide +kernel
theorem dX12_larder_54 : decode cX12_larder 54 = .ok (.iload_n 3, 1) := by decide +kernel
theorem dX12_larder_55 : decode cX12_larder 55 = .ok (.ireturn, 1) := by decide +kernel
theorem dX12_wantsOf_0 : decode cX12_wantsOf 0 = .ok (.iconst 0, 1) := by decide +kernel
theorem dX12_wantsOf_1 : decode cX12_wantsOf 1 = .ok (.istore_n 2, 1) := by decide +kernel
theorem dX12_wantsOf_2 : decode cX12_wantsOf 2 = .ok (.iconst 0, 1) := by decide +kernel
theorem dX12_wantsOf_3 : decode cX12_wantsOf 3 = .ok (.istore_n 3, 1) := by decide +kernel
theorem dX12_wantsOf_4 : decode cX12_wantsOf 4 = .ok (.iload_n 3, 1) := by decide +kernel
theorem dX12_wantsOf_5 : decode cX12_wantsOf 5 = .ok (.aload_n 0, 1) := by decide +kernel
theorem dX12_wantsOf_6 : decode cX12_wantsOf 6 = .ok (.invokevirtual 59, 3) := by decide +kernel
theorem dX12_wantsOf_9 : decode cX12_wantsOf 9 = .ok (.if_icmp .ge 41, 3) := by decide +kernel
theorem dX12_wantsOf_12 : decode cX12_wantsOf 12 = .ok (.iload_n 2, 1) := by decide +kernel
theorem dX12_wantsOf_13 : decode cX12_wantsOf 13 = .ok (.iload_n 1, 1) := by decide +kernel
theorem dX12_wantsOf_14 : decode cX12_wantsOf 14 = .ok (.iload_n 3, 1) := by decide +kernel
theorem dX12_wantsOf_15 : decode cX12_wantsOf 15 = .ok (.invokestatic 80, 3) := by decide +kernel
theorem dX12_wantsOf_18 : decode cX12_wantsOf 18 = .ok (.ifCond .eq 23, 3) := by decide +kernel
theorem dX12_wantsOf_21 : decode cX12_wantsOf 21 = .ok (.iconst 0, 1) := by decide +kernel
theorem dX12_wantsOf_22 : decode cX12_wantsOf 22 = .ok (.aload_n 0, 1) := by decide +kernel
theorem dX12_wantsOf_23 : decode cX12_wantsOf 23 = .ok (.iload_n 3, 1) := by decide +kernel
theorem dX12_wantsOf_24 : decode cX12_wantsOf 24 = .ok (.iconst 1, 1) := by decide +kernel
theorem dX12_wantsOf_25 : decode cX12_wantsOf 25 = .ok (.invokevirtual 272, 3) := by decide +kernel
theorem dX12_wantsOf_28 : decode cX12_wantsOf 28 = .ok (.aload_n 0, 1) := by decide +kernel
theorem dX12_wantsOf_29 : decode cX12_wantsOf 29 = .ok (.iload_n 3, 1) := by decide +kernel
theorem dX12_wantsOf_30 : decode cX12_wantsOf 30 = .ok (.iconst 2, 1) := by decide +kernel
theorem dX12_wantsOf_31 : decode cX12_wantsOf 31 = .ok (.invokevirtual 272, 3) := by decide +kernel
theorem dX12_wantsOf_34 : decode cX12_wantsOf 34 = .ok (.isub, 1) := by decide +kernel
theorem dX12_wantsOf_35 : decode cX12_wantsOf 35 = .ok (.invokestatic 310, 3) := by decide +kernel
theorem dX12_wantsOf_38 : decode cX12_wantsOf 38 = .ok (.goto 4, 3) := by decide +kernel
theorem dX12_wantsOf_41 : decode cX12_wantsOf 41 = .ok (.iconst 0, 1) := by decide +kernel
theorem dX12_wantsOf_42 : decode cX12_wantsOf 42 = .ok (.iadd, 1) := by decide +kernel
theorem dX12_wantsOf_43 : decode cX12_wantsOf 43 = .ok (.istore_n 2, 1) := by decide +kernel
theorem dX12_wantsOf_44 : decode cX12_wantsOf 44 = .ok (.iinc 3 1, 3) := by decide +kernel
theorem dX12_wantsOf_47 : decode cX12_wantsOf 47 = .ok (.goto (-43), 3) := by decide +kernel
theorem dX12_wantsOf_50 : decode cX12_wantsOf 50 = .ok (.iload_n 2, 1) := by decide +kernel
theorem dX12_wantsOf_51 : decode cX12_wantsOf 51 = .ok (.ireturn, 1) := by decide +kernel
theorem dX12_mayHave_0 : decode cX12_mayHave 0 = .ok (.iconst 0, 1) := by decide +kernel
theorem dX12_mayHave_1 : decode cX12_mayHave 1 = .ok (.istore_n 2, 1) := by decide +kernel
theorem dX12_mayHave_2 : decode cX12_mayHave 2 = .ok (.iconst 0, 1) := by decide +kernel
theorem dX12_mayHave_3 : decode cX12_mayHave 3 = .ok (.istore_n 3, 1) := by decide +kernel
theorem dX12_mayHave_4 : decode cX12_mayHave 4 = .ok (.iload_n 3, 1) := by decide +kernel
theorem dX12_mayHave_5 : decode cX12_mayHave 5 = .ok (.aload_n 0, 1) := by decide +kernel
theorem dX12_mayHave_6 : decode cX12_mayHave 6 = .ok (.invokevirtual 73, 3) := by decide +kernel
theorem dX12_mayHave_9 : decode cX12_mayHave 9 = .ok (.if_icmp .ge 87, 3) := by decide +kernel
theorem dX12_mayHave_12 : decode cX12_mayHave 12 = .ok (.iconst 0, 1) := by decide +kernel
theorem dX12_mayHave_13 : decode cX12_mayHave 13 = .ok (.istore 4, 2) := by decide +kernel
theorem dX12_mayHave_15 : decode cX12_mayHave 15 = .ok (.iconst 0, 1) := by decide +kernel
theorem dX12_mayHave_16 : decode cX12_mayHave 16 = .ok (.istore 5, 2) := by decide +kernel
theorem dX12_mayHave_18 : decode cX12_mayHave 18 = .ok (.iload 5, 2) := by decide +kernel
theorem dX12_mayHave_20 : decode cX12_mayHave 20 = .ok (.aload_n 0, 1) := by decide +kernel
theorem dX12_mayHave_21 : decode cX12_mayHave 21 = .ok (.invokevirtual 59, 3) := by decide +kernel
theorem dX12_mayHave_24 : decode cX12_mayHave 24 = .ok (.if_icmp .ge 40, 3) := by decide +kernel
theorem dX12_mayHave_27 : decode cX12_mayHave 27 = .ok (.iload 4, 2) := by decide +kernel
theorem dX12_mayHave_29 : decode cX12_mayHave 29 = .ok (.ifCond .ne 22, 3) := by decide +kernel
theorem dX12_mayHave_32 : decode cX12_mayHave 32 = .ok (.iload_n 1, 1) := by decide +kernel
theorem dX12_mayHave_33 : decode cX12_mayHave 33 = .ok (.iload 5, 2) := by decide +kernel
theorem dX12_mayHave_35 : decode cX12_mayHave 35 = .ok (.invokestatic 80, 3) := by decide +kernel
theorem dX12_mayHave_38 : decode cX12_mayHave 38 = .ok (.ifCond .eq 17, 3) := by decide +kernel
theorem dX12_mayHave_41 : decode cX12_mayHave 41 = .ok (.aload_n 0, 1) := by decide +kernel
theorem dX12_mayHave_42 : decode cX12_mayHave 42 = .ok (.iload_n 3, 1) := by decide +kernel
theorem dX12_mayHave_43 : decode cX12_mayHave 43 = .ok (.iload 5, 2) := by decide +kernel
theorem dX12_mayHave_45 : decode cX12_mayHave 45 = .ok (.invokevirtual 298, 3) := by decide +kernel
theorem dX12_mayHave_48 : decode cX12_mayHave 48 = .ok (.ifCond .ne 7, 3) := by decide +kernel
theorem dX12_mayHave_51 : decode cX12_mayHave 51 = .ok (.iconst 1, 1) := by decide +kernel
theorem dX12_mayHave_52 : decode cX12_mayHave 52 = .ok (.goto 4, 3) := by decide +kernel
theorem dX12_mayHave_55 : decode cX12_mayHave 55 = .ok (.iconst 0, 1) := by decide +kernel
theorem dX12_mayHave_56 : decode cX12_mayHave 56 = .ok (.istore 4, 2) := by decide +kernel
theorem dX12_mayHave_58 : decode cX12_mayHave 58 = .ok (.iinc 5 1, 3) := by decide +kernel
theorem dX12_mayHave_61 : decode cX12_mayHave 61 = .ok (.goto (-43), 3) := by decide +kernel
theorem dX12_mayHave_64 : decode cX12_mayHave 64 = .ok (.iload_n 2, 1) := by decide +kernel
theorem dX12_mayHave_65 : decode cX12_mayHave 65 = .ok (.iload 4, 2) := by decide +kernel
theorem dX12_mayHave_67 : decode cX12_mayHave 67 = .ok (.ifCond .eq 20, 3) := by decide +kernel
theorem dX12_mayHave_70 : decode cX12_mayHave 70 = .ok (.aload_n 0, 1) := by decide +kernel
theorem dX12_mayHave_71 : decode cX12_mayHave 71 = .ok (.iload_n 3, 1) := by decide +kernel
theorem dX12_mayHave_72 : decode cX12_mayHave 72 = .ok (.invokevirtual 76, 3) := by decide +kernel
theorem dX12_mayHave_75 : decode cX12_mayHave 75 = .ok (.ifCond .ne 12, 3) := by decide +kernel
theorem dX12_mayHave_78 : decode cX12_mayHave 78 = .ok (.aload_n 0, 1) := by decide +kernel
theorem dX12_mayHave_79 : decode cX12_mayHave 79 = .ok (.iload_n 3, 1) := by decide +kernel
theorem dX12_mayHave_80 : decode cX12_mayHave 80 = .ok (.iconst 4, 1) := by decide +kernel
theorem dX12_mayHave_81 : decode cX12_mayHave 81 = .ok (.invokevirtual 70, 3) := by decide +kernel
theorem dX12_mayHave_84 : decode cX12_mayHave 84 = .ok (.goto 4, 3) := by decide +kernel
theorem dX12_mayHave_87 : decode cX12_mayHave 87 = .ok (.iconst 0, 1) := by decide +kernel
theorem dX12_mayHave_88 : decode cX12_mayHave 88 = .ok (.iadd, 1) := by decide +kernel
theorem dX12_mayHave_89 : decode cX12_mayHave 89 = .ok (.istore_n 2, 1) := by decide +kernel
theorem dX12_mayHave_90 : decode cX12_mayHave 90 = .ok (.iinc 3 1, 3) := by decide +kernel
theorem dX12_mayHave_93 : decode cX12_mayHave 93 = .ok (.goto (-89), 3) := by decide +kernel
theorem dX12_mayHave_96 : decode cX12_mayHave 96 = .ok (.iload_n 2, 1) := by decide +kernel
theorem dX12_mayHave_97 : decode cX12_mayHave 97 = .ok (.ireturn, 1) := by decide +kernel
theorem dX12_missesOf_0 : decode cX12_missesOf 0 = .ok (.iconst 0, 1) := by decide +kernel
theorem dX12_missesOf_1 : decode cX12_missesOf 1 = .ok (.aload_n 0, 1) := by decide +kernel
theorem dX12_missesOf_2 : decode cX12_missesOf 2 = .ok (.iload_n 1, 1) := by decide +kernel
theorem dX12_missesOf_3 : decode cX12_missesOf 3 = .ok (.invokevirtual 381, 3) := by decide +kernel
theorem dX12_missesOf_6 : decode cX12_missesOf 6 = .ok (.aload_n 0, 1) := by decide +kernel
theorem dX12_missesOf_7 : decode cX12_missesOf 7 = .ok (.iload_n 1, 1) := by decide +kernel
theorem dX12_missesOf_8 : decode cX12_missesOf 8 = .ok (.invokevirtual 384, 3) := by decide +kernel
theorem dX12_missesOf_11 : decode cX12_missesOf 11 = .ok (.isub, 1) := by decide +kernel
theorem dX12_missesOf_12 : decode cX12_missesOf 12 = .ok (.invokestatic 310, 3) := by decide +kernel
theorem dX12_missesOf_15 : decode cX12_missesOf 15 = .ok (.ireturn, 1) := by decide +kernel
theorem dX12_keeps_0 : decode cX12_keeps 0 = .ok (.aload_n 0, 1) := by decide +kernel
theorem dX12_keeps_1 : decode cX12_keeps 1 = .ok (.iconst 0, 1) := by decide +kernel
theorem dX12_keeps_2 : decode cX12_keeps 2 = .ok (.putfield 3, 3) := by decide +kernel
theorem dX12_keeps_5 : decode cX12_keeps 5 = .ok (.iconst 0, 1) := by decide +kernel
theorem dX12_keeps_6 : decode cX12_keeps 6 = .ok (.istore_n 1, 1) := by decide +kernel
theorem dX12_keeps_7 : decode cX12_keeps 7 = .ok (.iconst 0, 1) := by decide +kernel
theorem dX12_keeps_8 : decode cX12_keeps 8 = .ok (.istore_n 2, 1) := by decide +kernel
theorem dX12_keeps_9 : decode cX12_keeps 9 = .ok (.iload_n 2, 1) := by decide +kernel
theorem dX12_keeps_10 : decode cX12_keeps 10 = .ok (.aload_n 0, 1) := by decide +kernel
theorem dX12_keeps_11 : decode cX12_keeps 11 = .ok (.invokevirtual 387, 3) := by decide +kernel
theorem dX12_keeps_14 : decode cX12_keeps 14 = .ok (.if_icmp .gt 19, 3) := by decide +kernel
theorem dX12_keeps_17 : decode cX12_keeps 17 = .ok (.iload_n 1, 1) := by decide +kernel
theorem dX12_keeps_18 : decode cX12_keeps 18 = .ok (.aload_n 0, 1) := by decide +kernel
theorem dX12_keeps_19 : decode cX12_keeps 19 = .ok (.iload_n 2, 1) := by decide +kernel
theorem dX12_keeps_20 : decode cX12_keeps 20 = .ok (.invokevirtual 390, 3) := by decide +kernel
theorem dX12_keeps_23 : decode cX12_keeps 23 = .ok (.invokestatic 310, 3) := by decide +kernel
theorem dX12_keeps_26 : decode cX12_keeps 26 = .ok (.istore_n 1, 1) := by decide +kernel
theorem dX12_keeps_27 : decode cX12_keeps 27 = .ok (.iinc 2 1, 3) := by decide +kernel
theorem dX12_keeps_30 : decode cX12_keeps 30 = .ok (.goto (-21), 3) := by decide +kernel
theorem dX12_keeps_33 : decode cX12_keeps 33 = .ok (.aload_n 0, 1) := by decide +kernel
theorem dX12_keeps_34 : decode cX12_keeps 34 = .ok (.aload_n 0, 1) := by decide +kernel
theorem dX12_keeps_35 : decode cX12_keeps 35 = .ok (.invokevirtual 387, 3) := by decide +kernel
theorem dX12_keeps_38 : decode cX12_keeps 38 = .ok (.invokevirtual 381, 3) := by decide +kernel
theorem dX12_keeps_41 : decode cX12_keeps 41 = .ok (.iload_n 1, 1) := by decide +kernel
theorem dX12_keeps_42 : decode cX12_keeps 42 = .ok (.isub, 1) := by decide +kernel
theorem dX12_keeps_43 : decode cX12_keeps 43 = .ok (.ireturn, 1) := by decide +kernel
theorem dX12_misses_0 : decode cX12_misses 0 = .ok (.aload_n 0, 1) := by decide +kernel
theorem dX12_misses_1 : decode cX12_misses 1 = .ok (.iconst 0, 1) := by decide +kernel
theorem dX12_misses_2 : decode cX12_misses 2 = .ok (.putfield 3, 3) := by decide +kernel
theorem dX12_misses_5 : decode cX12_misses 5 = .ok (.aload_n 0, 1) := by decide +kernel
theorem dX12_misses_6 : decode cX12_misses 6 = .ok (.iload_n 1, 1) := by decide +kernel
theorem dX12_misses_7 : decode cX12_misses 7 = .ok (.aload_n 0, 1) := by decide +kernel
theorem dX12_misses_8 : decode cX12_misses 8 = .ok (.invokevirtual 387, 3) := by decide +kernel
theorem dX12_misses_11 : decode cX12_misses 11 = .ok (.iand, 1) := by decide +kernel
theorem dX12_misses_12 : decode cX12_misses 12 = .ok (.invokevirtual 390, 3) := by decide +kernel
theorem dX12_misses_15 : decode cX12_misses 15 = .ok (.ireturn, 1) := by decide +kernel
theorem dX12_tight_0 : decode cX12_tight 0 = .ok (.aload_n 0, 1) := by decide +kernel
theorem dX12_tight_1 : decode cX12_tight 1 = .ok (.iconst 0, 1) := by decide +kernel
theorem dX12_tight_2 : decode cX12_tight 2 = .ok (.putfield 3, 3) := by decide +kernel
theorem dX12_tight_5 : decode cX12_tight 5 = .ok (.iconst 0, 1) := by decide +kernel
theorem dX12_tight_6 : decode cX12_tight 6 = .ok (.istore_n 1, 1) := by decide +kernel
theorem dX12_tight_7 : decode cX12_tight 7 = .ok (.iconst 1, 1) := by decide +kernel
theorem dX12_tight_8 : decode cX12_tight 8 = .ok (.istore_n 2, 1) := by decide +kernel
theorem dX12_tight_9 : decode cX12_tight 9 = .ok (.iload_n 2, 1) := by decide +kernel
theorem dX12_tight_10 : decode cX12_tight 10 = .ok (.aload_n 0, 1) := by decide +kernel
theorem dX12_tight_11 : decode cX12_tight 11 = .ok (.invokevirtual 387, 3) := by decide +kernel
theorem dX12_tight_14 : decode cX12_tight 14 = .ok (.if_icmp .gt 30, 3) := by decide +kernel
theorem dX12_tight_17 : decode cX12_tight 17 = .ok (.aload_n 0, 1) := by decide +kernel
theorem dX12_tight_18 : decode cX12_tight 18 = .ok (.iload_n 2, 1) := by decide +kernel
theorem dX12_tight_19 : decode cX12_tight 19 = .ok (.invokevirtual 390, 3) := by decide +kernel
theorem dX12_tight_22 : decode cX12_tight 22 = .ok (.ifCond .le 16, 3) := by decide +kernel
theorem dX12_tight_25 : decode cX12_tight 25 = .ok (.iload_n 2, 1) := by decide +kernel
theorem dX12_tight_26 : decode cX12_tight 26 = .ok (.invokestatic 343, 3) := by decide +kernel
theorem dX12_tight_29 : decode cX12_tight 29 = .ok (.iload_n 1, 1) := by decide +kernel
theorem dX12_tight_30 : decode cX12_tight 30 = .ok (.invokestatic 343, 3) := by decide +kernel
theorem dX12_tight_33 : decode cX12_tight 33 = .ok (.if_icmp .le 5, 3) := by decide +kernel
theorem dX12_tight_36 : decode cX12_tight 36 = .ok (.iload_n 2, 1) := by decide +kernel
theorem dX12_tight_37 : decode cX12_tight 37 = .ok (.istore_n 1, 1) := by decide +kernel
theorem dX12_tight_38 : decode cX12_tight 38 = .ok (.iinc 2 1, 3) := by decide +kernel
theorem dX12_tight_41 : decode cX12_tight 41 = .ok (.goto (-32), 3) := by decide +kernel
theorem dX12_tight_44 : decode cX12_tight 44 = .ok (.iload_n 1, 1) := by decide +kernel
theorem dX12_tight_45 : decode cX12_tight 45 = .ok (.ireturn, 1) := by decide +kernel
theorem dX12_quarrelsOf_0 : decode cX12_quarrelsOf 0 = .ok (.iconst 0, 1) := by decide +kernel
theorem dX12_quarrelsOf_1 : decode cX12_quarrelsOf 1 = .ok (.istore_n 3, 1) := by decide +kernel
theorem dX12_quarrelsOf_2 : decode cX12_quarrelsOf 2 = .ok (.iconst 0, 1) := by decide +kernel
theorem dX12_quarrelsOf_3 : decode cX12_quarrelsOf 3 = .ok (.istore 4, 2) := by decide +kernel
theorem dX12_quarrelsOf_5 : decode cX12_quarrelsOf 5 = .ok (.iload 4, 2) := by decide +kernel
theorem dX12_quarrelsOf_7 : decode cX12_quarrelsOf 7 = .ok (.aload_n 0, 1) := by decide +kernel
theorem dX12_quarrelsOf_8 : decode cX12_quarrelsOf 8 = .ok (.invokevirtual 73, 3) := by decide +kernel
theorem dX12_quarrelsOf_11 : decode cX12_quarrelsOf 11 = .ok (.if_icmp .ge 53, 3) := by decide +kernel
theorem dX12_quarrelsOf_14 : decode cX12_quarrelsOf 14 = .ok (.iload_n 2, 1) := by decide +kernel
theorem dX12_quarrelsOf_15 : decode cX12_quarrelsOf 15 = .ok (.iload 4, 2) := by decide +kernel
theorem dX12_quarrelsOf_17 : decode cX12_quarrelsOf 17 = .ok (.invokestatic 80, 3) := by decide +kernel
theorem dX12_quarrelsOf_20 : decode cX12_quarrelsOf 20 = .ok (.ifCond .eq 38, 3) := by decide +kernel
theorem dX12_quarrelsOf_23 : decode cX12_quarrelsOf 23 = .ok (.aload_n 0, 1) := by decide +kernel
theorem dX12_quarrelsOf_24 : decode cX12_quarrelsOf 24 = .ok (.iload 4, 2) := by decide +kernel
theorem dX12_quarrelsOf_26 : decode cX12_quarrelsOf 26 = .ok (.iload_n 1, 1) := by decide +kernel
theorem dX12_quarrelsOf_27 : decode cX12_quarrelsOf 27 = .ok (.invokevirtual 298, 3) := by decide +kernel
theorem dX12_quarrelsOf_30 : decode cX12_quarrelsOf 30 = .ok (.ifCond .ne 6, 3) := by decide +kernel
theorem dX12_quarrelsOf_33 : decode cX12_quarrelsOf 33 = .ok (.goto 25, 3) := by decide +kernel
theorem dX12_quarrelsOf_36 : decode cX12_quarrelsOf 36 = .ok (.iload_n 3, 1) := by decide +kernel
theorem dX12_quarrelsOf_37 : decode cX12_quarrelsOf 37 = .ok (.iconst 1, 1) := by decide +kernel
theorem dX12_quarrelsOf_38 : decode cX12_quarrelsOf 38 = .ok (.aload_n 0, 1) := by decide +kernel
theorem dX12_quarrelsOf_39 : decode cX12_quarrelsOf 39 = .ok (.iload 4, 2) := by decide +kernel
theorem dX12_quarrelsOf_41 : decode cX12_quarrelsOf 41 = .ok (.iconst 0, 1) := by decide +kernel
theorem dX12_quarrelsOf_42 : decode cX12_quarrelsOf 42 = .ok (.invokevirtual 70, 3) := by decide +kernel
theorem dX12_quarrelsOf_45 : decode cX12_quarrelsOf 45 = .ok (.ishl, 1) := by decide +kernel
theorem dX12_quarrelsOf_46 : decode cX12_quarrelsOf 46 = .ok (.iconst 1, 1) := by decide +kernel
theorem dX12_quarrelsOf_47 : decode cX12_quarrelsOf 47 = .ok (.aload_n 0, 1) := by decide +kernel
theorem dX12_quarrelsOf_48 : decode cX12_quarrelsOf 48 = .ok (.iload 4, 2) := by decide +kernel
theorem dX12_quarrelsOf_50 : decode cX12_quarrelsOf 50 = .ok (.iconst 1, 1) := by decide +kernel
theorem dX12_quarrelsOf_51 : decode cX12_quarrelsOf 51 = .ok (.invokevirtual 70, 3) := by decide +kernel
theorem dX12_quarrelsOf_54 : decode cX12_quarrelsOf 54 = .ok (.ishl, 1) := by decide +kernel
theorem dX12_quarrelsOf_55 : decode cX12_quarrelsOf 55 = .ok (.ior, 1) := by decide +kernel
theorem dX12_quarrelsOf_56 : decode cX12_quarrelsOf 56 = .ok (.ior, 1) := by decide +kernel
theorem dX12_quarrelsOf_57 : decode cX12_quarrelsOf 57 = .ok (.istore_n 3, 1) := by decide +kernel
theorem dX12_quarrelsOf_58 : decode cX12_quarrelsOf 58 = .ok (.iinc 4 1, 3) := by decide +kernel
theorem dX12_quarrelsOf_61 : decode cX12_quarrelsOf 61 = .ok (.goto (-56), 3) := by decide +kernel
theorem dX12_quarrelsOf_64 : decode cX12_quarrelsOf 64 = .ok (.iload_n 3, 1) := by decide +kernel
theorem dX12_quarrelsOf_65 : decode cX12_quarrelsOf 65 = .ok (.iconst 1, 1) := by decide +kernel
theorem dX12_quarrelsOf_66 : decode cX12_quarrelsOf 66 = .ok (.iload_n 1, 1) := by decide +kernel
theorem dX12_quarrelsOf_67 : decode cX12_quarrelsOf 67 = .ok (.ishl, 1) := by decide +kernel
theorem dX12_quarrelsOf_68 : decode cX12_quarrelsOf 68 = .ok (.iconst (-1), 1) := by decide +kernel
theorem dX12_quarrelsOf_69 : decode cX12_quarrelsOf 69 = .ok (.ixor, 1) := by decide +kernel
theorem dX12_quarrelsOf_70 : decode cX12_quarrelsOf 70 = .ok (.iand, 1) := by decide +kernel
theorem dX12_quarrelsOf_71 : decode cX12_quarrelsOf 71 = .ok (.ireturn, 1) := by decide +kernel
theorem dX12_friendsBy_0 : decode cX12_friendsBy 0 = .ok (.iconst 0, 1) := by decide +kernel
theorem dX12_friendsBy_1 : decode cX12_friendsBy 1 = .ok (.istore_n 2, 1) := by decide +kernel
theorem dX12_friendsBy_2 : decode cX12_friendsBy 2 = .ok (.iconst 0, 1) := by decide +kernel
theorem dX12_friendsBy_3 : decode cX12_friendsBy 3 = .ok (.istore_n 3, 1) := by decide +kernel
theorem dX12_friendsBy_4 : decode cX12_friendsBy 4 = .ok (.iload_n 3, 1) := by decide +kernel
theorem dX12_friendsBy_5 : decode cX12_friendsBy 5 = .ok (.aload_n 0, 1) := by decide +kernel
theorem dX12_friendsBy_6 : decode cX12_friendsBy 6 = .ok (.invokevirtual 59, 3) := by decide +kernel
theorem dX12_friendsBy_9 : decode cX12_friendsBy 9 = .ok (.if_icmp .ge 28, 3) := by decide +kernel
theorem dX12_friendsBy_12 : decode cX12_friendsBy 12 = .ok (.iload_n 2, 1) := by decide +kernel
theorem dX12_friendsBy_13 : decode cX12_friendsBy 13 = .ok (.aload_n 0, 1) := by decide +kernel
theorem dX12_friendsBy_14 : decode cX12_friendsBy 14 = .ok (.invokevirtual 59, 3) := by decide +kernel
theorem dX12_friendsBy_17 : decode cX12_friendsBy 17 = .ok (.iconst 1, 1) := by decide +kernel
theorem dX12_friendsBy_18 : decode cX12_friendsBy 18 = .ok (.isub, 1) := by decide +kernel
theorem dX12_friendsBy_19 : decode cX12_friendsBy 19 = .ok (.aload_n 0, 1) := by decide +kernel
theorem dX12_friendsBy_20 : decode cX12_friendsBy 20 = .ok (.iload_n 3, 1) := by decide +kernel
theorem dX12_friendsBy_21 : decode cX12_friendsBy 21 = .ok (.iload_n 1, 1) := by decide +kernel
theorem dX12_friendsBy_22 : decode cX12_friendsBy 22 = .ok (.invokevirtual 393, 3) := by decide +kernel
theorem dX12_friendsBy_25 : decode cX12_friendsBy 25 = .ok (.invokestatic 343, 3) := by decide +kernel
theorem dX12_friendsBy_28 : decode cX12_friendsBy 28 = .ok (.isub, 1) := by decide +kernel
theorem dX12_friendsBy_29 : decode cX12_friendsBy 29 = .ok (.iadd, 1) := by decide +kernel
theorem dX12_friendsBy_30 : decode cX12_friendsBy 30 = .ok (.istore_n 2, 1) := by decide +kernel
theorem dX12_friendsBy_31 : decode cX12_friendsBy 31 = .ok (.iinc 3 1, 3) := by decide +kernel
theorem dX12_friendsBy_34 : decode cX12_friendsBy 34 = .ok (.goto (-30), 3) := by decide +kernel
theorem dX12_friendsBy_37 : decode cX12_friendsBy 37 = .ok (.iload_n 2, 1) := by decide +kernel
theorem dX12_friendsBy_38 : decode cX12_friendsBy 38 = .ok (.iconst 2, 1) := by decide +kernel
theorem dX12_friendsBy_39 : decode cX12_friendsBy 39 = .ok (.idiv, 1) := by decide +kernel
theorem dX12_friendsBy_40 : decode cX12_friendsBy 40 = .ok (.ireturn, 1) := by decide +kernel
theorem dX12_thaw_0 : decode cX12_thaw 0 = .ok (.aload_n 0, 1) := by decide +kernel
theorem dX12_thaw_1 : decode cX12_thaw 1 = .ok (.iconst 0, 1) := by decide +kernel
theorem dX12_thaw_2 : decode cX12_thaw 2 = .ok (.putfield 3, 3) := by decide +kernel
theorem dX12_thaw_5 : decode cX12_thaw 5 = .ok (.aload_n 0, 1) := by decide +kernel
theorem dX12_thaw_6 : decode cX12_thaw 6 = .ok (.iload_n 1, 1) := by decide +kernel
theorem dX12_thaw_7 : decode cX12_thaw 7 = .ok (.iconst 0, 1) := by decide +kernel
theorem dX12_thaw_8 : decode cX12_thaw 8 = .ok (.sipush 999, 3) := by decide +kernel
theorem dX12_thaw_11 : decode cX12_thaw 11 = .ok (.invokestatic 84, 3) := by decide +kernel
theorem dX12_thaw_14 : decode cX12_thaw 14 = .ok (.ifCond .ne 7, 3) := by decide +kernel
theorem dX12_thaw_17 : decode cX12_thaw 17 = .ok (.iconst 1, 1) := by decide +kernel
theorem dX12_thaw_18 : decode cX12_thaw 18 = .ok (.goto 4, 3) := by decide +kernel
theorem dX12_thaw_21 : decode cX12_thaw 21 = .ok (.iconst 0, 1) := by decide +kernel
theorem dX12_thaw_22 : decode cX12_thaw 22 = .ok (.iconst 1, 1) := by decide +kernel
theorem dX12_thaw_23 : decode cX12_thaw 23 = .ok (.invokevirtual 269, 3) := by decide +kernel
theorem dX12_thaw_26 : decode cX12_thaw 26 = .ok (.ifCond .eq 5, 3) := by decide +kernel
theorem dX12_thaw_29 : decode cX12_thaw 29 = .ok (.iconst 0, 1) := by decide +kernel
theorem dX12_thaw_30 : decode cX12_thaw 30 = .ok (.ireturn, 1) := by decide +kernel
theorem dX12_thaw_31 : decode cX12_thaw 31 = .ok (.aload_n 0, 1) := by decide +kernel
theorem dX12_thaw_32 : decode cX12_thaw 32 = .ok (.invokevirtual 291, 3) := by decide +kernel
theorem dX12_thaw_35 : decode cX12_thaw 35 = .ok (.istore_n 2, 1) := by decide +kernel
theorem dX12_thaw_36 : decode cX12_thaw 36 = .ok (.iconst (-1), 1) := by decide +kernel
theorem dX12_thaw_37 : decode cX12_thaw 37 = .ok (.istore_n 3, 1) := by decide +kernel
theorem dX12_thaw_38 : decode cX12_thaw 38 = .ok (.iconst (-1), 1) := by decide +kernel
theorem dX12_thaw_39 : decode cX12_thaw 39 = .ok (.istore 4, 2) := by decide +kernel
theorem dX12_thaw_41 : decode cX12_thaw 41 = .ok (.iconst 0, 1) := by decide +kernel
theorem dX12_thaw_42 : decode cX12_thaw 42 = .ok (.istore 5, 2) := by decide +kernel
theorem dX12_thaw_44 : decode cX12_thaw 44 = .ok (.iload 5, 2) := by decide +kernel
theorem dX12_thaw_46 : decode cX12_thaw 46 = .ok (.iload_n 2, 1) := by decide +kernel
theorem dX12_thaw_47 : decode cX12_thaw 47 = .ok (.if_icmp .gt 83, 3) := by decide +kernel
theorem dX12_thaw_50 : decode cX12_thaw 50 = .ok (.iload 5, 2) := by decide +kernel
theorem dX12_thaw_52 : decode cX12_thaw 52 = .ok (.iload_n 2, 1) := by decide +kernel
theorem dX12_thaw_53 : decode cX12_thaw 53 = .ok (.iconst (-1), 1) := by decide +kernel
theorem dX12_thaw_54 : decode cX12_thaw 54 = .ok (.ixor, 1) := by decide +kernel
theorem dX12_thaw_55 : decode cX12_thaw 55 = .ok (.iand, 1) := by decide +kernel
theorem dX12_thaw_56 : decode cX12_thaw 56 = .ok (.ifCond .ne 68, 3) := by decide +kernel
theorem dX12_thaw_59 : decode cX12_thaw 59 = .ok (.aload_n 0, 1) := by decide +kernel
theorem dX12_thaw_60 : decode cX12_thaw 60 = .ok (.iload_n 2, 1) := by decide +kernel
theorem dX12_thaw_61 : decode cX12_thaw 61 = .ok (.iload 5, 2) := by decide +kernel
theorem dX12_thaw_63 : decode cX12_thaw 63 = .ok (.iconst (-1), 1) := by decide +kernel
theorem dX12_thaw_64 : decode cX12_thaw 64 = .ok (.ixor, 1) := by decide +kernel
theorem dX12_thaw_65 : decode cX12_thaw 65 = .ok (.iand, 1) := by decide +kernel
theorem dX12_thaw_66 : decode cX12_thaw 66 = .ok (.invokevirtual 294, 3) := by decide +kernel
theorem dX12_thaw_69 : decode cX12_thaw 69 = .ok (.iload_n 1, 1) := by decide +kernel
theorem dX12_thaw_70 : decode cX12_thaw 70 = .ok (.if_icmp .ge 6, 3) := by decide +kernel
theorem dX12_thaw_73 : decode cX12_thaw 73 = .ok (.goto 51, 3) := by decide +kernel
theorem dX12_thaw_76 : decode cX12_thaw 76 = .ok (.aload_n 0, 1) := by decide +kernel
theorem dX12_thaw_77 : decode cX12_thaw 77 = .ok (.iload_n 2, 1) := by decide +kernel
theorem dX12_thaw_78 : decode cX12_thaw 78 = .ok (.iload 5, 2) := by decide +kernel
theorem dX12_thaw_80 : decode cX12_thaw 80 = .ok (.iconst (-1), 1) := by decide +kernel
theorem dX12_thaw_81 : decode cX12_thaw 81 = .ok (.ixor, 1) := by decide +kernel
theorem dX12_thaw_82 : decode cX12_thaw 82 = .ok (.iand, 1) := by decide +kernel
theorem dX12_thaw_83 : decode cX12_thaw 83 = .ok (.invokevirtual 396, 3) := by decide +kernel
theorem dX12_thaw_86 : decode cX12_thaw 86 = .ok (.istore 6, 2) := by decide +kernel
theorem dX12_thaw_88 : decode cX12_thaw 88 = .ok (.iload 6, 2) := by decide +kernel
theorem dX12_thaw_90 : decode cX12_thaw 90 = .ok (.iload 4, 2) := by decide +kernel
theorem dX12_thaw_92 : decode cX12_thaw 92 = .ok (.if_icmp .lt 32, 3) := by decide +kernel
theorem dX12_thaw_95 : decode cX12_thaw 95 = .ok (.iload 6, 2) := by decide +kernel
theorem dX12_thaw_97 : decode cX12_thaw 97 = .ok (.iload 4, 2) := by decide +kernel
theorem dX12_thaw_99 : decode cX12_thaw 99 = .ok (.if_icmp .ne 18, 3) := by decide +kernel
theorem dX12_thaw_102 : decode cX12_thaw 102 = .ok (.iload 5, 2) := by decide +kernel
theorem dX12_thaw_104 : decode cX12_thaw 104 = .ok (.invokestatic 343, 3) := by decide +kernel
theorem dX12_thaw_107 : decode cX12_thaw 107 = .ok (.iload_n 3, 1) := by decide +kernel
theorem dX12_thaw_108 : decode cX12_thaw 108 = .ok (.invokestatic 343, 3) := by decide +kernel
theorem dX12_thaw_111 : decode cX12_thaw 111 = .ok (.if_icmp .lt 6, 3) := by decide +kernel
theorem dX12_thaw_114 : decode cX12_thaw 114 = .ok (.goto 10, 3) := by decide +kernel
theorem dX12_thaw_117 : decode cX12_thaw 117 = .ok (.iload 5, 2) := by decide +kernel
theorem dX12_thaw_119 : decode cX12_thaw 119 = .ok (.istore_n 3, 1) := by decide +kernel
theorem dX12_thaw_120 : decode cX12_thaw 120 = .ok (.iload 6, 2) := by decide +kernel
theorem dX12_thaw_122 : decode cX12_thaw 122 = .ok (.istore 4, 2) := by decide +kernel
theorem dX12_thaw_124 : decode cX12_thaw 124 = .ok (.iinc 5 1, 3) := by decide +kernel
theorem dX12_thaw_127 : decode cX12_thaw 127 = .ok (.goto (-83), 3) := by decide +kernel
theorem dX12_thaw_130 : decode cX12_thaw 130 = .ok (.iload_n 3, 1) := by decide +kernel
theorem dX12_thaw_131 : decode cX12_thaw 131 = .ok (.ireturn, 1) := by decide +kernel
theorem dX12_friends_0 : decode cX12_friends 0 = .ok (.aload_n 0, 1) := by decide +kernel
theorem dX12_friends_1 : decode cX12_friends 1 = .ok (.iconst 0, 1) := by decide +kernel
theorem dX12_friends_2 : decode cX12_friends 2 = .ok (.putfield 3, 3) := by decide +kernel
theorem dX12_friends_5 : decode cX12_friends 5 = .ok (.aload_n 0, 1) := by decide +kernel
theorem dX12_friends_6 : decode cX12_friends 6 = .ok (.aload_n 0, 1) := by decide +kernel
theorem dX12_friends_7 : decode cX12_friends 7 = .ok (.invokevirtual 291, 3) := by decide +kernel
theorem dX12_friends_10 : decode cX12_friends 10 = .ok (.invokevirtual 396, 3) := by decide +kernel
theorem dX12_friends_13 : decode cX12_friends 13 = .ok (.ireturn, 1) := by decide +kernel
theorem dX12_within_0 : decode cX12_within 0 = .ok (.iconst 0, 1) := by decide +kernel
theorem dX12_within_1 : decode cX12_within 1 = .ok (.istore_n 2, 1) := by decide +kernel
theorem dX12_within_2 : decode cX12_within 2 = .ok (.iconst 0, 1) := by decide +kernel
theorem dX12_within_3 : decode cX12_within 3 = .ok (.istore_n 3, 1) := by decide +kernel
theorem dX12_within_4 : decode cX12_within 4 = .ok (.iload_n 3, 1) := by decide +kernel
theorem dX12_within_5 : decode cX12_within 5 = .ok (.aload_n 0, 1) := by decide +kernel
theorem dX12_within_6 : decode cX12_within 6 = .ok (.invokevirtual 73, 3) := by decide +kernel
theorem dX12_within_9 : decode cX12_within 9 = .ok (.if_icmp .ge 48, 3) := by decide +kernel
theorem dX12_within_12 : decode cX12_within 12 = .ok (.iload_n 2, 1) := by decide +kernel
theorem dX12_within_13 : decode cX12_within 13 = .ok (.aload_n 0, 1) := by decide +kernel
theorem dX12_within_14 : decode cX12_within 14 = .ok (.iload_n 3, 1) := by decide +kernel
theorem dX12_within_15 : decode cX12_within 15 = .ok (.invokevirtual 76, 3) := by decide +kernel
theorem dX12_within_18 : decode cX12_within 18 = .ok (.ifCond .ne 30, 3) := by decide +kernel
theorem dX12_within_21 : decode cX12_within 21 = .ok (.iload_n 1, 1) := by decide +kernel
theorem dX12_within_22 : decode cX12_within 22 = .ok (.aload_n 0, 1) := by decide +kernel
theorem dX12_within_23 : decode cX12_within 23 = .ok (.iload_n 3, 1) := by decide +kernel
theorem dX12_within_24 : decode cX12_within 24 = .ok (.iconst 0, 1) := by decide +kernel
theorem dX12_within_25 : decode cX12_within 25 = .ok (.invokevirtual 70, 3) := by decide +kernel
theorem dX12_within_28 : decode cX12_within 28 = .ok (.invokestatic 80, 3) := by decide +kernel
theorem dX12_within_31 : decode cX12_within 31 = .ok (.iload_n 1, 1) := by decide +kernel
theorem dX12_within_32 : decode cX12_within 32 = .ok (.aload_n 0, 1) := by decide +kernel
theorem dX12_within_33 : decode cX12_within 33 = .ok (.iload_n 3, 1) := by decide +kernel
theorem dX12_within_34 : decode cX12_within 34 = .ok (.iconst 1, 1) := by decide +kernel
theorem dX12_within_35 : decode cX12_within 35 = .ok (.invokevirtual 70, 3) := by decide +kernel
theorem dX12_within_38 : decode cX12_within 38 = .ok (.invokestatic 80, 3) := by decide +kernel
theorem dX12_within_41 : decode cX12_within 41 = .ok (.if_icmp .ne 7, 3) := by decide +kernel
theorem dX12_within_44 : decode cX12_within 44 = .ok (.iconst 1, 1) := by decide +kernel
theorem dX12_within_45 : decode cX12_within 45 = .ok (.goto 4, 3) := by decide +kernel
theorem dX12_within_48 : decode cX12_within 48 = .ok (.iconst 0, 1) := by decide +kernel
theorem dX12_within_49 : decode cX12_within 49 = .ok (.iadd, 1) := by decide +kernel
theorem dX12_within_50 : decode cX12_within 50 = .ok (.istore_n 2, 1) := by decide +kernel
theorem dX12_within_51 : decode cX12_within 51 = .ok (.iinc 3 1, 3) := by decide +kernel
theorem dX12_within_54 : decode cX12_within 54 = .ok (.goto (-50), 3) := by decide +kernel
theorem dX12_within_57 : decode cX12_within 57 = .ok (.iload_n 2, 1) := by decide +kernel
theorem dX12_within_58 : decode cX12_within 58 = .ok (.ireturn, 1) := by decide +kernel
theorem dX12_camps_0 : decode cX12_camps 0 = .ok (.aload_n 0, 1) := by decide +kernel
theorem dX12_camps_1 : decode cX12_camps 1 = .ok (.iconst 0, 1) := by decide +kernel
theorem dX12_camps_2 : decode cX12_camps 2 = .ok (.putfield 3, 3) := by decide +kernel
theorem dX12_camps_5 : decode cX12_camps 5 = .ok (.iconst 0, 1) := by decide +kernel
theorem dX12_camps_6 : decode cX12_camps 6 = .ok (.istore_n 2, 1) := by decide +kernel
theorem dX12_camps_7 : decode cX12_camps 7 = .ok (.iconst 2, 1) := by decide +kernel
theorem dX12_camps_8 : decode cX12_camps 8 = .ok (.istore_n 3, 1) := by decide +kernel
theorem dX12_camps_9 : decode cX12_camps 9 = .ok (.iload_n 3, 1) := by decide +kernel
theorem dX12_camps_10 : decode cX12_camps 10 = .ok (.aload_n 0, 1) := by decide +kernel
theorem dX12_camps_11 : decode cX12_camps 11 = .ok (.invokevirtual 387, 3) := by decide +kernel
theorem dX12_camps_14 : decode cX12_camps 14 = .ok (.if_icmp .gt 28, 3) := by decide +kernel
theorem dX12_camps_17 : decode cX12_camps 17 = .ok (.aload_n 0, 1) := by decide +kernel
theorem dX12_camps_18 : decode cX12_camps 18 = .ok (.iload_n 3, 1) := by decide +kernel
theorem dX12_camps_19 : decode cX12_camps 19 = .ok (.invokevirtual 399, 3) := by decide +kernel
theorem dX12_camps_22 : decode cX12_camps 22 = .ok (.aload_n 0, 1) := by decide +kernel
theorem dX12_camps_23 : decode cX12_camps 23 = .ok (.iload_n 2, 1) := by decide +kernel
theorem dX12_camps_24 : decode cX12_camps 24 = .ok (.invokevirtual 399, 3) := by decide +kernel
theorem dX12_camps_27 : decode cX12_camps 27 = .ok (.if_icmp .ge 7, 3) := by decide +kernel
theorem dX12_camps_30 : decode cX12_camps 30 = .ok (.iload_n 3, 1) := by decide +kernel
theorem dX12_camps_31 : decode cX12_camps 31 = .ok (.goto 4, 3) := by decide +kernel
theorem dX12_camps_34 : decode cX12_camps 34 = .ok (.iload_n 2, 1) := by decide +kernel
theorem dX12_camps_35 : decode cX12_camps 35 = .ok (.istore_n 2, 1) := by decide +kernel
theorem dX12_camps_36 : decode cX12_camps 36 = .ok (.iinc 3 2, 3) := by decide +kernel
theorem dX12_camps_39 : decode cX12_camps 39 = .ok (.goto (-30), 3) := by decide +kernel
theorem dX12_camps_42 : decode cX12_camps 42 = .ok (.iload_n 1, 1) := by decide +kernel
theorem dX12_camps_43 : decode cX12_camps 43 = .ok (.ifCond .eq 11, 3) := by decide +kernel
theorem dX12_camps_46 : decode cX12_camps 46 = .ok (.aload_n 0, 1) := by decide +kernel
theorem dX12_camps_47 : decode cX12_camps 47 = .ok (.iload_n 2, 1) := by decide +kernel
theorem dX12_camps_48 : decode cX12_camps 48 = .ok (.invokevirtual 399, 3) := by decide +kernel
theorem dX12_camps_51 : decode cX12_camps 51 = .ok (.goto 4, 3) := by decide +kernel
theorem dX12_camps_54 : decode cX12_camps 54 = .ok (.iload_n 2, 1) := by decide +kernel
theorem dX12_camps_55 : decode cX12_camps 55 = .ok (.ireturn, 1) := by decide +kernel
theorem dX12_isCut_0 : decode cX12_isCut 0 = .ok (.aload_n 0, 1) := by decide +kernel
theorem dX12_isCut_1 : decode cX12_isCut 1 = .ok (.getfield 95, 3) := by decide +kernel
theorem dX12_isCut_4 : decode cX12_isCut 4 = .ok (.iconst 2, 1) := by decide +kernel
theorem dX12_isCut_5 : decode cX12_isCut 5 = .ok (.irem, 1) := by decide +kernel
theorem dX12_isCut_6 : decode cX12_isCut 6 = .ok (.ifCond .ne 16, 3) := by decide +kernel
theorem dX12_isCut_9 : decode cX12_isCut 9 = .ok (.aload_n 0, 1) := by decide +kernel
theorem dX12_isCut_10 : decode cX12_isCut 10 = .ok (.getfield 95, 3) := by decide +kernel
theorem dX12_isCut_13 : decode cX12_isCut 13 = .ok (.bipush 40, 2) := by decide +kernel
theorem dX12_isCut_15 : decode cX12_isCut 15 = .ok (.if_icmp .gt 7, 3) := by decide +kernel
theorem dX12_isCut_18 : decode cX12_isCut 18 = .ok (.iconst 1, 1) := by decide +kernel
theorem dX12_isCut_19 : decode cX12_isCut 19 = .ok (.goto 4, 3) := by decide +kernel
theorem dX12_isCut_22 : decode cX12_isCut 22 = .ok (.iconst 0, 1) := by decide +kernel
theorem dX12_isCut_23 : decode cX12_isCut 23 = .ok (.istore_n 1, 1) := by decide +kernel
theorem dX12_isCut_24 : decode cX12_isCut 24 = .ok (.iconst 0, 1) := by decide +kernel
theorem dX12_isCut_25 : decode cX12_isCut 25 = .ok (.istore_n 2, 1) := by decide +kernel
theorem dX12_isCut_26 : decode cX12_isCut 26 = .ok (.iload_n 2, 1) := by decide +kernel
theorem dX12_isCut_27 : decode cX12_isCut 27 = .ok (.aload_n 0, 1) := by decide +kernel
theorem dX12_isCut_28 : decode cX12_isCut 28 = .ok (.getfield 95, 3) := by decide +kernel
theorem dX12_isCut_31 : decode cX12_isCut 31 = .ok (.if_icmp .ge 50, 3) := by decide +kernel
theorem dX12_isCut_34 : decode cX12_isCut 34 = .ok (.iload_n 1, 1) := by decide +kernel
theorem dX12_isCut_35 : decode cX12_isCut 35 = .ok (.ifCond .eq 46, 3) := by decide +kernel
theorem dX12_isCut_38 : decode cX12_isCut 38 = .ok (.aload_n 0, 1) := by decide +kernel
theorem dX12_isCut_39 : decode cX12_isCut 39 = .ok (.getfield 29, 3) := by decide +kernel
theorem dX12_isCut_42 : decode cX12_isCut 42 = .ok (.iload_n 2, 1) := by decide +kernel
theorem dX12_isCut_43 : decode cX12_isCut 43 = .ok (.baload, 1) := by decide +kernel
theorem dX12_isCut_44 : decode cX12_isCut 44 = .ok (.iconst 0, 1) := by decide +kernel
theorem dX12_isCut_45 : decode cX12_isCut 45 = .ok (.iconst 1, 1) := by decide +kernel
theorem dX12_isCut_46 : decode cX12_isCut 46 = .ok (.invokestatic 84, 3) := by decide +kernel
theorem dX12_isCut_49 : decode cX12_isCut 49 = .ok (.ifCond .eq 24, 3) := by decide +kernel
theorem dX12_isCut_52 : decode cX12_isCut 52 = .ok (.aload_n 0, 1) := by decide +kernel
theorem dX12_isCut_53 : decode cX12_isCut 53 = .ok (.getfield 29, 3) := by decide +kernel
theorem dX12_isCut_56 : decode cX12_isCut 56 = .ok (.iload_n 2, 1) := by decide +kernel
theorem dX12_isCut_57 : decode cX12_isCut 57 = .ok (.iconst 1, 1) := by decide +kernel
theorem dX12_isCut_58 : decode cX12_isCut 58 = .ok (.iadd, 1) := by decide +kernel
theorem dX12_isCut_59 : decode cX12_isCut 59 = .ok (.baload, 1) := by decide +kernel
theorem dX12_isCut_60 : decode cX12_isCut 60 = .ok (.iconst 0, 1) := by decide +kernel
theorem dX12_isCut_61 : decode cX12_isCut 61 = .ok (.bipush 9, 2) := by decide +kernel
theorem dX12_isCut_63 : decode cX12_isCut 63 = .ok (.invokestatic 84, 3) := by decide +kernel
theorem dX12_isCut_66 : decode cX12_isCut 66 = .ok (.ifCond .eq 7, 3) := by decide +kernel
theorem dX12_isCut_69 : decode cX12_isCut 69 = .ok (.iconst 1, 1) := by decide +kernel
theorem dX12_isCut_70 : decode cX12_isCut 70 = .ok (.goto 4, 3) := by decide +kernel
theorem dX12_isCut_73 : decode cX12_isCut 73 = .ok (.iconst 0, 1) := by decide +kernel
theorem dX12_isCut_74 : decode cX12_isCut 74 = .ok (.istore_n 1, 1) := by decide +kernel
theorem dX12_isCut_75 : decode cX12_isCut 75 = .ok (.iinc 2 2, 3) := by decide +kernel
theorem dX12_isCut_78 : decode cX12_isCut 78 = .ok (.goto (-52), 3) := by decide +kernel
theorem dX12_isCut_81 : decode cX12_isCut 81 = .ok (.iload_n 1, 1) := by decide +kernel
theorem dX12_isCut_82 : decode cX12_isCut 82 = .ok (.ireturn, 1) := by decide +kernel
theorem dX12_fits_0 : decode cX12_fits 0 = .ok (.iconst 0, 1) := by decide +kernel
theorem dX12_fits_1 : decode cX12_fits 1 = .ok (.istore_n 2, 1) := by decide +kernel
theorem dX12_fits_2 : decode cX12_fits 2 = .ok (.iconst 0, 1) := by decide +kernel
theorem dX12_fits_3 : decode cX12_fits 3 = .ok (.istore_n 3, 1) := by decide +kernel
theorem dX12_fits_4 : decode cX12_fits 4 = .ok (.iload_n 3, 1) := by decide +kernel
theorem dX12_fits_5 : decode cX12_fits 5 = .ok (.aload_n 0, 1) := by decide +kernel
theorem dX12_fits_6 : decode cX12_fits 6 = .ok (.getfield 95, 3) := by decide +kernel
theorem dX12_fits_9 : decode cX12_fits 9 = .ok (.if_icmp .ge 46, 3) := by decide +kernel
theorem dX12_fits_12 : decode cX12_fits 12 = .ok (.iload_n 2, 1) := by decide +kernel
theorem dX12_fits_13 : decode cX12_fits 13 = .ok (.aload_n 0, 1) := by decide +kernel
theorem dX12_fits_14 : decode cX12_fits 14 = .ok (.getfield 13, 3) := by decide +kernel
theorem dX12_fits_17 : decode cX12_fits 17 = .ok (.bipush 14, 2) := by decide +kernel
theorem dX12_fits_19 : decode cX12_fits 19 = .ok (.iconst 2, 1) := by decide +kernel
theorem dX12_fits_20 : decode cX12_fits 20 = .ok (.iload_n 1, 1) := by decide +kernel
theorem dX12_fits_21 : decode cX12_fits 21 = .ok (.imul, 1) := by decide +kernel
theorem dX12_fits_22 : decode cX12_fits 22 = .ok (.iadd, 1) := by decide +kernel
theorem dX12_fits_23 : decode cX12_fits 23 = .ok (.aload_n 0, 1) := by decide +kernel
theorem dX12_fits_24 : decode cX12_fits 24 = .ok (.getfield 29, 3) := by decide +kernel
theorem dX12_fits_27 : decode cX12_fits 27 = .ok (.iload_n 3, 1) := by decide +kernel
theorem dX12_fits_28 : decode cX12_fits 28 = .ok (.baload, 1) := by decide +kernel
theorem dX12_fits_29 : decode cX12_fits 29 = .ok (.iadd, 1) := by decide +kernel
theorem dX12_fits_30 : decode cX12_fits 30 = .ok (.iaload, 1) := by decide +kernel
theorem dX12_fits_31 : decode cX12_fits 31 = .ok (.aload_n 0, 1) := by decide +kernel
theorem dX12_fits_32 : decode cX12_fits 32 = .ok (.getfield 29, 3) := by decide +kernel
theorem dX12_fits_35 : decode cX12_fits 35 = .ok (.iload_n 3, 1) := by decide +kernel
theorem dX12_fits_36 : decode cX12_fits 36 = .ok (.iconst 1, 1) := by decide +kernel
theorem dX12_fits_37 : decode cX12_fits 37 = .ok (.iadd, 1) := by decide +kernel
theorem dX12_fits_38 : decode cX12_fits 38 = .ok (.baload, 1) := by decide +kernel
theorem dX12_fits_39 : decode cX12_fits 39 = .ok (.if_icmp .ne 7, 3) := by decide +kernel
theorem dX12_fits_42 : decode cX12_fits 42 = .ok (.iconst 0, 1) := by decide +kernel
theorem dX12_fits_43 : decode cX12_fits 43 = .ok (.goto 4, 3) := by decide +kernel
theorem dX12_fits_46 : decode cX12_fits 46 = .ok (.iconst 1, 1) := by decide +kernel
theorem dX12_fits_47 : decode cX12_fits 47 = .ok (.iadd, 1) := by decide +kernel
theorem dX12_fits_48 : decode cX12_fits 48 = .ok (.istore_n 2, 1) := by decide +kernel
theorem dX12_fits_49 : decode cX12_fits 49 = .ok (.iinc 3 2, 3) := by decide +kernel
theorem dX12_fits_52 : decode cX12_fits 52 = .ok (.goto (-48), 3) := by decide +kernel
theorem dX12_fits_55 : decode cX12_fits 55 = .ok (.iload_n 2, 1) := by decide +kernel
theorem dX12_fits_56 : decode cX12_fits 56 = .ok (.iconst 2, 1) := by decide +kernel
theorem dX12_fits_57 : decode cX12_fits 57 = .ok (.if_icmp .ge 7, 3) := by decide +kernel
theorem dX12_fits_60 : decode cX12_fits 60 = .ok (.iconst 1, 1) := by decide +kernel
theorem dX12_fits_61 : decode cX12_fits 61 = .ok (.goto 4, 3) := by decide +kernel
theorem dX12_fits_64 : decode cX12_fits 64 = .ok (.iconst 0, 1) := by decide +kernel
theorem dX12_fits_65 : decode cX12_fits 65 = .ok (.ireturn, 1) := by decide +kernel
theorem dX12_fitting_0 : decode cX12_fitting 0 = .ok (.iconst 0, 1) := by decide +kernel
theorem dX12_fitting_1 : decode cX12_fitting 1 = .ok (.istore_n 1, 1) := by decide +kernel
theorem dX12_fitting_2 : decode cX12_fitting 2 = .ok (.iconst 0, 1) := by decide +kernel
theorem dX12_fitting_3 : decode cX12_fitting 3 = .ok (.istore_n 2, 1) := by decide +kernel
theorem dX12_fitting_4 : decode cX12_fitting 4 = .ok (.iload_n 2, 1) := by decide +kernel
theorem dX12_fitting_5 : decode cX12_fitting 5 = .ok (.bipush 8, 2) := by decide +kernel
theorem dX12_fitting_7 : decode cX12_fitting 7 = .ok (.if_icmp .ge 27, 3) := by decide +kernel
theorem dX12_fitting_10 : decode cX12_fitting 10 = .ok (.iload_n 1, 1) := by decide +kernel
theorem dX12_fitting_11 : decode cX12_fitting 11 = .ok (.aload_n 0, 1) := by decide +kernel
theorem dX12_fitting_12 : decode cX12_fitting 12 = .ok (.iload_n 2, 1) := by decide +kernel
theorem dX12_fitting_13 : decode cX12_fitting 13 = .ok (.invokevirtual 402, 3) := by decide +kernel
theorem dX12_fitting_16 : decode cX12_fitting 16 = .ok (.ifCond .eq 9, 3) := by decide +kernel
theorem dX12_fitting_19 : decode cX12_fitting 19 = .ok (.iconst 1, 1) := by decide +kernel
theorem dX12_fitting_20 : decode cX12_fitting 20 = .ok (.iload_n 2, 1) := by decide +kernel
theorem dX12_fitting_21 : decode cX12_fitting 21 = .ok (.ishl, 1) := by decide +kernel
theorem dX12_fitting_22 : decode cX12_fitting 22 = .ok (.goto 4, 3) := by decide +kernel
theorem dX12_fitting_25 : decode cX12_fitting 25 = .ok (.iconst 0, 1) := by decide +kernel
theorem dX12_fitting_26 : decode cX12_fitting 26 = .ok (.ior, 1) := by decide +kernel
theorem dX12_fitting_27 : decode cX12_fitting 27 = .ok (.istore_n 1, 1) := by decide +kernel
theorem dX12_fitting_28 : decode cX12_fitting 28 = .ok (.iinc 2 1, 3) := by decide +kernel
theorem dX12_fitting_31 : decode cX12_fitting 31 = .ok (.goto (-27), 3) := by decide +kernel
theorem dX12_fitting_34 : decode cX12_fitting 34 = .ok (.iload_n 1, 1) := by decide +kernel
theorem dX12_fitting_35 : decode cX12_fitting 35 = .ok (.ireturn, 1) := by decide +kernel
theorem dX12_cuts_0 : decode cX12_cuts 0 = .ok (.aload_n 0, 1) := by decide +kernel
theorem dX12_cuts_1 : decode cX12_cuts 1 = .ok (.invokevirtual 258, 3) := by decide +kernel
theorem dX12_cuts_4 : decode cX12_cuts 4 = .ok (.aload_n 0, 1) := by decide +kernel
theorem dX12_cuts_5 : decode cX12_cuts 5 = .ok (.aload_n 0, 1) := by decide +kernel
theorem dX12_cuts_6 : decode cX12_cuts 6 = .ok (.invokevirtual 405, 3) := by decide +kernel
theorem dX12_cuts_9 : decode cX12_cuts 9 = .ok (.ifCond .ne 7, 3) := by decide +kernel
theorem dX12_cuts_12 : decode cX12_cuts 12 = .ok (.iconst 1, 1) := by decide +kernel
theorem dX12_cuts_13 : decode cX12_cuts 13 = .ok (.goto 4, 3) := by decide +kernel
theorem dX12_cuts_16 : decode cX12_cuts 16 = .ok (.iconst 0, 1) := by decide +kernel
theorem dX12_cuts_17 : decode cX12_cuts 17 = .ok (.iconst 1, 1) := by decide +kernel
theorem dX12_cuts_18 : decode cX12_cuts 18 = .ok (.invokevirtual 269, 3) := by decide +kernel
theorem dX12_cuts_21 : decode cX12_cuts 21 = .ok (.ifCond .eq 5, 3) := by decide +kernel
theorem dX12_cuts_24 : decode cX12_cuts 24 = .ok (.iconst 0, 1) := by decide +kernel
theorem dX12_cuts_25 : decode cX12_cuts 25 = .ok (.ireturn, 1) := by decide +kernel
theorem dX12_cuts_26 : decode cX12_cuts 26 = .ok (.aload_n 0, 1) := by decide +kernel
theorem dX12_cuts_27 : decode cX12_cuts 27 = .ok (.invokevirtual 408, 3) := by decide +kernel
theorem dX12_cuts_30 : decode cX12_cuts 30 = .ok (.istore_n 2, 1) := by decide +kernel
theorem dX12_cuts_31 : decode cX12_cuts 31 = .ok (.iconst (-1), 1) := by decide +kernel
theorem dX12_cuts_32 : decode cX12_cuts 32 = .ok (.istore_n 3, 1) := by decide +kernel
theorem dX12_cuts_33 : decode cX12_cuts 33 = .ok (.iconst (-1), 1) := by decide +kernel
theorem dX12_cuts_34 : decode cX12_cuts 34 = .ok (.istore 4, 2) := by decide +kernel
theorem dX12_cuts_36 : decode cX12_cuts 36 = .ok (.iconst 0, 1) := by decide +kernel
theorem dX12_cuts_37 : decode cX12_cuts 37 = .ok (.istore 5, 2) := by decide +kernel
theorem dX12_cuts_39 : decode cX12_cuts 39 = .ok (.iload 5, 2) := by decide +kernel
theorem dX12_cuts_41 : decode cX12_cuts 41 = .ok (.bipush 8, 2) := by decide +kernel
theorem dX12_cuts_43 : decode cX12_cuts 43 = .ok (.if_icmp .ge 56, 3) := by decide +kernel
theorem dX12_cuts_46 : decode cX12_cuts 46 = .ok (.iload_n 2, 1) := by decide +kernel
theorem dX12_cuts_47 : decode cX12_cuts 47 = .ok (.iload 5, 2) := by decide +kernel
theorem dX12_cuts_49 : decode cX12_cuts 49 = .ok (.invokestatic 80, 3) := by decide +kernel
theorem dX12_cuts_52 : decode cX12_cuts 52 = .ok (.ifCond .eq 15, 3) := by decide +kernel
theorem dX12_cuts_55 : decode cX12_cuts 55 = .ok (.aload_n 0, 1) := by decide +kernel
theorem dX12_cuts_56 : decode cX12_cuts 56 = .ok (.iload 5, 2) := by decide +kernel
theorem dX12_cuts_58 : decode cX12_cuts 58 = .ok (.invokevirtual 327, 3) := by decide +kernel
theorem dX12_cuts_61 : decode cX12_cuts 61 = .ok (.invokestatic 343, 3) := by decide +kernel
theorem dX12_cuts_64 : decode cX12_cuts 64 = .ok (.goto 4, 3) := by decide +kernel
theorem dX12_cuts_67 : decode cX12_cuts 67 = .ok (.iconst (-1), 1) := by decide +kernel
theorem dX12_cuts_68 : decode cX12_cuts 68 = .ok (.istore 6, 2) := by decide +kernel
theorem dX12_cuts_70 : decode cX12_cuts 70 = .ok (.iload 6, 2) := by decide +kernel
theorem dX12_cuts_72 : decode cX12_cuts 72 = .ok (.iload 4, 2) := by decide +kernel
theorem dX12_cuts_74 : decode cX12_cuts 74 = .ok (.if_icmp .le 8, 3) := by decide +kernel
theorem dX12_cuts_77 : decode cX12_cuts 77 = .ok (.iload 5, 2) := by decide +kernel
theorem dX12_cuts_79 : decode cX12_cuts 79 = .ok (.goto 4, 3) := by decide +kernel
theorem dX12_cuts_82 : decode cX12_cuts 82 = .ok (.iload_n 3, 1) := by decide +kernel
theorem dX12_cuts_83 : decode cX12_cuts 83 = .ok (.istore_n 3, 1) := by decide +kernel
theorem dX12_cuts_84 : decode cX12_cuts 84 = .ok (.iload 4, 2) := by decide +kernel
theorem dX12_cuts_86 : decode cX12_cuts 86 = .ok (.iload 6, 2) := by decide +kernel
theorem dX12_cuts_88 : decode cX12_cuts 88 = .ok (.invokestatic 310, 3) := by decide +kernel
theorem dX12_cuts_91 : decode cX12_cuts 91 = .ok (.istore 4, 2) := by decide +kernel
theorem dX12_cuts_93 : decode cX12_cuts 93 = .ok (.iinc 5 1, 3) := by decide +kernel
theorem dX12_cuts_96 : decode cX12_cuts 96 = .ok (.goto (-57), 3) := by decide +kernel
theorem dX12_cuts_99 : decode cX12_cuts 99 = .ok (.iload_n 1, 1) := by decide +kernel
theorem dX12_cuts_100 : decode cX12_cuts 100 = .ok (.ifCond .eq 7, 3) := by decide +kernel
theorem dX12_cuts_103 : decode cX12_cuts 103 = .ok (.iload_n 3, 1) := by decide +kernel
theorem dX12_cuts_104 : decode cX12_cuts 104 = .ok (.goto 4, 3) := by decide +kernel
theorem dX12_cuts_107 : decode cX12_cuts 107 = .ok (.iload_n 2, 1) := by decide +kernel
theorem dX12_cuts_108 : decode cX12_cuts 108 = .ok (.ireturn, 1) := by decide +kernel
theorem dX12_ask_0 : decode cX12_ask 0 = .ok (.aload_n 0, 1) := by decide +kernel
theorem dX12_ask_1 : decode cX12_ask 1 = .ok (.invokevirtual 258, 3) := by decide +kernel
theorem dX12_ask_4 : decode cX12_ask 4 = .ok (.aload_n 0, 1) := by decide +kernel
theorem dX12_ask_5 : decode cX12_ask 5 = .ok (.aload_n 0, 1) := by decide +kernel
theorem dX12_ask_6 : decode cX12_ask 6 = .ok (.invokevirtual 405, 3) := by decide +kernel
theorem dX12_ask_9 : decode cX12_ask 9 = .ok (.ifCond .ne 7, 3) := by decide +kernel
theorem dX12_ask_12 : decode cX12_ask 12 = .ok (.iconst 1, 1) := by decide +kernel
theorem dX12_ask_13 : decode cX12_ask 13 = .ok (.goto 4, 3) := by decide +kernel
theorem dX12_ask_16 : decode cX12_ask 16 = .ok (.iconst 0, 1) := by decide +kernel
theorem dX12_ask_17 : decode cX12_ask 17 = .ok (.iconst 1, 1) := by decide +kernel
theorem dX12_ask_18 : decode cX12_ask 18 = .ok (.invokevirtual 269, 3) := by decide +kernel
theorem dX12_ask_21 : decode cX12_ask 21 = .ok (.ifCond .eq 5, 3) := by decide +kernel
theorem dX12_ask_24 : decode cX12_ask 24 = .ok (.iconst 0, 1) := by decide +kernel
theorem dX12_ask_25 : decode cX12_ask 25 = .ok (.ireturn, 1) := by decide +kernel
theorem dX12_ask_26 : decode cX12_ask 26 = .ok (.aload_n 0, 1) := by decide +kernel
theorem dX12_ask_27 : decode cX12_ask 27 = .ok (.invokevirtual 408, 3) := by decide +kernel
theorem dX12_ask_30 : decode cX12_ask 30 = .ok (.istore_n 1, 1) := by decide +kernel
theorem dX12_ask_31 : decode cX12_ask 31 = .ok (.iload_n 1, 1) := by decide +kernel
theorem dX12_ask_32 : decode cX12_ask 32 = .ok (.invokestatic 343, 3) := by decide +kernel
theorem dX12_ask_35 : decode cX12_ask 35 = .ok (.iconst 2, 1) := by decide +kernel
theorem dX12_ask_36 : decode cX12_ask 36 = .ok (.if_icmp .ge 5, 3) := by decide +kernel
theorem dX12_ask_39 : decode cX12_ask 39 = .ok (.iconst (-1), 1) := by decide +kernel
theorem dX12_ask_40 : decode cX12_ask 40 = .ok (.ireturn, 1) := by decide +kernel
theorem dX12_ask_41 : decode cX12_ask 41 = .ok (.iconst (-1), 1) := by decide +kernel
theorem dX12_ask_42 : decode cX12_ask 42 = .ok (.istore_n 2, 1) := by decide +kernel
theorem dX12_ask_43 : decode cX12_ask 43 = .ok (.ldc_w 377, 3) := by decide +kernel
theorem dX12_ask_46 : decode cX12_ask 46 = .ok (.istore_n 3, 1) := by decide +kernel
theorem dX12_ask_47 : decode cX12_ask 47 = .ok (.iconst 0, 1) := by decide +kernel
theorem dX12_ask_48 : decode cX12_ask 48 = .ok (.istore 4, 2) := by decide +kernel
theorem dX12_ask_50 : decode cX12_ask 50 = .ok (.iload 4, 2) := by decide +kernel
theorem dX12_ask_52 : decode cX12_ask 52 = .ok (.iconst 2, 1) := by decide +kernel
theorem dX12_ask_53 : decode cX12_ask 53 = .ok (.if_icmp .ge 115, 3) := by decide +kernel
theorem dX12_ask_56 : decode cX12_ask 56 = .ok (.iconst 0, 1) := by decide +kernel
theorem dX12_ask_57 : decode cX12_ask 57 = .ok (.istore 5, 2) := by decide +kernel
theorem dX12_ask_59 : decode cX12_ask 59 = .ok (.iconst 0, 1) := by decide +kernel
theorem dX12_ask_60 : decode cX12_ask 60 = .ok (.istore 6, 2) := by decide +kernel
theorem dX12_ask_62 : decode cX12_ask 62 = .ok (.iload 6, 2) := by decide +kernel
theorem dX12_ask_64 : decode cX12_ask 64 = .ok (.bipush 9, 2) := by decide +kernel
theorem dX12_ask_66 : decode cX12_ask 66 = .ok (.if_icmp .gt 76, 3) := by decide +kernel
theorem dX12_ask_69 : decode cX12_ask 69 = .ok (.iconst 0, 1) := by decide +kernel
theorem dX12_ask_70 : decode cX12_ask 70 = .ok (.istore 7, 2) := by decide +kernel
theorem dX12_ask_72 : decode cX12_ask 72 = .ok (.iconst 0, 1) := by decide +kernel
theorem dX12_ask_73 : decode cX12_ask 73 = .ok (.istore 8, 2) := by decide +kernel
theorem dX12_ask_75 : decode cX12_ask 75 = .ok (.iload 8, 2) := by decide +kernel
theorem dX12_ask_77 : decode cX12_ask 77 = .ok (.bipush 8, 2) := by decide +kernel
theorem dX12_ask_79 : decode cX12_ask 79 = .ok (.if_icmp .ge 48, 3) := by decide +kernel
theorem dX12_ask_82 : decode cX12_ask 82 = .ok (.iload 7, 2) := by decide +kernel
theorem dX12_ask_84 : decode cX12_ask 84 = .ok (.iload_n 1, 1) := by decide +kernel
theorem dX12_ask_85 : decode cX12_ask 85 = .ok (.iload 8, 2) := by decide +kernel
theorem dX12_ask_87 : decode cX12_ask 87 = .ok (.invokestatic 80, 3) := by decide +kernel
theorem dX12_ask_90 : decode cX12_ask 90 = .ok (.ifCond .eq 27, 3) := by decide +kernel
theorem dX12_ask_93 : decode cX12_ask 93 = .ok (.aload_n 0, 1) := by decide +kernel
theorem dX12_ask_94 : decode cX12_ask 94 = .ok (.getfield 13, 3) := by decide +kernel
theorem dX12_ask_97 : decode cX12_ask 97 = .ok (.bipush 14, 2) := by decide +kernel
theorem dX12_ask_99 : decode cX12_ask 99 = .ok (.iconst 2, 1) := by decide +kernel
theorem dX12_ask_100 : decode cX12_ask 100 = .ok (.iload 8, 2) := by decide +kernel
theorem dX12_ask_102 : decode cX12_ask 102 = .ok (.imul, 1) := by decide +kernel
theorem dX12_ask_103 : decode cX12_ask 103 = .ok (.iadd, 1) := by decide +kernel
theorem dX12_ask_104 : decode cX12_ask 104 = .ok (.iload 4, 2) := by decide +kernel
theorem dX12_ask_106 : decode cX12_ask 106 = .ok (.iadd, 1) := by decide +kernel
theorem dX12_ask_107 : decode cX12_ask 107 = .ok (.iaload, 1) := by decide +kernel
theorem dX12_ask_108 : decode cX12_ask 108 = .ok (.iload 6, 2) := by decide +kernel
theorem dX12_ask_110 : decode cX12_ask 110 = .ok (.if_icmp .ne 7, 3) := by decide +kernel
theorem dX12_ask_113 : decode cX12_ask 113 = .ok (.iconst 1, 1) := by decide +kernel
theorem dX12_ask_114 : decode cX12_ask 114 = .ok (.goto 4, 3) := by decide +kernel
theorem dX12_ask_117 : decode cX12_ask 117 = .ok (.iconst 0, 1) := by decide +kernel
theorem dX12_ask_118 : decode cX12_ask 118 = .ok (.iadd, 1) := by decide +kernel
theorem dX12_ask_119 : decode cX12_ask 119 = .ok (.istore 7, 2) := by decide +kernel
theorem dX12_ask_121 : decode cX12_ask 121 = .ok (.iinc 8 1, 3) := by decide +kernel
theorem dX12_ask_124 : decode cX12_ask 124 = .ok (.goto (-49), 3) := by decide +kernel
theorem dX12_ask_127 : decode cX12_ask 127 = .ok (.iload 5, 2) := by decide +kernel
theorem dX12_ask_129 : decode cX12_ask 129 = .ok (.iload 7, 2) := by decide +kernel
theorem dX12_ask_131 : decode cX12_ask 131 = .ok (.invokestatic 310, 3) := by decide +kernel
theorem dX12_ask_134 : decode cX12_ask 134 = .ok (.istore 5, 2) := by decide +kernel
theorem dX12_ask_136 : decode cX12_ask 136 = .ok (.iinc 6 1, 3) := by decide +kernel
theorem dX12_ask_139 : decode cX12_ask 139 = .ok (.goto (-77), 3) := by decide +kernel
theorem dX12_ask_142 : decode cX12_ask 142 = .ok (.iload 5, 2) := by decide +kernel
theorem dX12_ask_144 : decode cX12_ask 144 = .ok (.iload_n 3, 1) := by decide +kernel
theorem dX12_ask_145 : decode cX12_ask 145 = .ok (.if_icmp .ge 8, 3) := by decide +kernel
theorem dX12_ask_148 : decode cX12_ask 148 = .ok (.iload 4, 2) := by decide +kernel
theorem dX12_ask_150 : decode cX12_ask 150 = .ok (.goto 4, 3) := by decide +kernel
theorem dX12_ask_153 : decode cX12_ask 153 = .ok (.iload_n 2, 1) := by decide +kernel
theorem dX12_ask_154 : decode cX12_ask 154 = .ok (.istore_n 2, 1) := by decide +kernel
theorem dX12_ask_155 : decode cX12_ask 155 = .ok (.iload_n 3, 1) := by decide +kernel
theorem dX12_ask_156 : decode cX12_ask 156 = .ok (.iload 5, 2) := by decide +kernel
theorem dX12_ask_158 : decode cX12_ask 158 = .ok (.invokestatic 330, 3) := by decide +kernel
theorem dX12_ask_161 : decode cX12_ask 161 = .ok (.istore_n 3, 1) := by decide +kernel
theorem dX12_ask_162 : decode cX12_ask 162 = .ok (.iinc 4 1, 3) := by decide +kernel
theorem dX12_ask_165 : decode cX12_ask 165 = .ok (.goto (-115), 3) := by decide +kernel
theorem dX12_ask_168 : decode cX12_ask 168 = .ok (.iload_n 2, 1) := by decide +kernel
theorem dX12_ask_169 : decode cX12_ask 169 = .ok (.ireturn, 1) := by decide +kernel
theorem dX12_rota_0 : decode cX12_rota 0 = .ok (.aload_n 0, 1) := by decide +kernel
theorem dX12_rota_1 : decode cX12_rota 1 = .ok (.iconst 0, 1) := by decide +kernel
theorem dX12_rota_2 : decode cX12_rota 2 = .ok (.putfield 3, 3) := by decide +kernel
theorem dX12_rota_5 : decode cX12_rota 5 = .ok (.aload_n 0, 1) := by decide +kernel
theorem dX12_rota_6 : decode cX12_rota 6 = .ok (.invokevirtual 59, 3) := by decide +kernel
theorem dX12_rota_9 : decode cX12_rota 9 = .ok (.iconst 1, 1) := by decide +kernel
theorem dX12_rota_10 : decode cX12_rota 10 = .ok (.if_icmp .ne 5, 3) := by decide +kernel
theorem dX12_rota_13 : decode cX12_rota 13 = .ok (.iconst (-1), 1) := by decide +kernel
theorem dX12_rota_14 : decode cX12_rota 14 = .ok (.ireturn, 1) := by decide +kernel
theorem dX12_rota_15 : decode cX12_rota 15 = .ok (.iconst 0, 1) := by decide +kernel
theorem dX12_rota_16 : decode cX12_rota 16 = .ok (.istore_n 1, 1) := by decide +kernel
theorem dX12_rota_17 : decode cX12_rota 17 = .ok (.iconst 0, 1) := by decide +kernel
theorem dX12_rota_18 : decode cX12_rota 18 = .ok (.istore_n 2, 1) := by decide +kernel
theorem dX12_rota_19 : decode cX12_rota 19 = .ok (.iload_n 2, 1) := by decide +kernel
theorem dX12_rota_20 : decode cX12_rota 20 = .ok (.aload_n 0, 1) := by decide +kernel
theorem dX12_rota_21 : decode cX12_rota 21 = .ok (.invokevirtual 59, 3) := by decide +kernel
theorem dX12_rota_24 : decode cX12_rota 24 = .ok (.if_icmp .ge 29, 3) := by decide +kernel
theorem dX12_rota_27 : decode cX12_rota 27 = .ok (.iload_n 1, 1) := by decide +kernel
theorem dX12_rota_28 : decode cX12_rota 28 = .ok (.aload_n 0, 1) := by decide +kernel
theorem dX12_rota_29 : decode cX12_rota 29 = .ok (.iload_n 2, 1) := by decide +kernel
theorem dX12_rota_30 : decode cX12_rota 30 = .ok (.aload_n 0, 1) := by decide +kernel
theorem dX12_rota_31 : decode cX12_rota 31 = .ok (.invokevirtual 291, 3) := by decide +kernel
theorem dX12_rota_34 : decode cX12_rota 34 = .ok (.invokevirtual 393, 3) := by decide +kernel
theorem dX12_rota_37 : decode cX12_rota 37 = .ok (.ifCond .ne 7, 3) := by decide +kernel
theorem dX12_rota_40 : decode cX12_rota 40 = .ok (.iconst 1, 1) := by decide +kernel
theorem dX12_rota_41 : decode cX12_rota 41 = .ok (.goto 4, 3) := by decide +kernel
theorem dX12_rota_44 : decode cX12_rota 44 = .ok (.iconst 0, 1) := by decide +kernel
theorem dX12_rota_45 : decode cX12_rota 45 = .ok (.iadd, 1) := by decide +kernel
theorem dX12_rota_46 : decode cX12_rota 46 = .ok (.istore_n 1, 1) := by decide +kernel
theorem dX12_rota_47 : decode cX12_rota 47 = .ok (.iinc 2 1, 3) := by decide +kernel
theorem dX12_rota_50 : decode cX12_rota 50 = .ok (.goto (-31), 3) := by decide +kernel
theorem dX12_rota_53 : decode cX12_rota 53 = .ok (.iload_n 1, 1) := by decide +kernel
theorem dX12_rota_54 : decode cX12_rota 54 = .ok (.iconst 1, 1) := by decide +kernel
theorem dX12_rota_55 : decode cX12_rota 55 = .ok (.iadd, 1) := by decide +kernel
theorem dX12_rota_56 : decode cX12_rota 56 = .ok (.iconst 2, 1) := by decide +kernel
theorem dX12_rota_57 : decode cX12_rota 57 = .ok (.idiv, 1) := by decide +kernel
theorem dX12_rota_58 : decode cX12_rota 58 = .ok (.ireturn, 1) := by decide +kernel
theorem dX12_oneStep_0 : decode cX12_oneStep 0 = .ok (.iload_n 1, 1) := by decide +kernel
theorem dX12_oneStep_1 : decode cX12_oneStep 1 = .ok (.istore_n 3, 1) := by decide +kernel
theorem dX12_oneStep_2 : decode cX12_oneStep 2 = .ok (.iconst 0, 1) := by decide +kernel
theorem dX12_oneStep_3 : decode cX12_oneStep 3 = .ok (.istore 4, 2) := by decide +kernel
theorem dX12_oneStep_5 : decode cX12_oneStep 5 = .ok (.iload 4, 2) := by decide +kernel
theorem dX12_oneStep_7 : decode cX12_oneStep 7 = .ok (.aload_n 0, 1) := by decide +kernel
theorem dX12_oneStep_8 : decode cX12_oneStep 8 = .ok (.invokevirtual 59, 3) := by decide +kernel
theorem dX12_oneStep_11 : decode cX12_oneStep 11 = .ok (.if_icmp .ge 32, 3) := by decide +kernel
theorem dX12_oneStep_14 : decode cX12_oneStep 14 = .ok (.iload_n 3, 1) := by decide +kernel
theorem dX12_oneStep_15 : decode cX12_oneStep 15 = .ok (.iload_n 1, 1) := by decide +kernel
theorem dX12_oneStep_16 : decode cX12_oneStep 16 = .ok (.iload 4, 2) := by decide +kernel
theorem dX12_oneStep_18 : decode cX12_oneStep 18 = .ok (.invokestatic 80, 3) := by decide +kernel
theorem dX12_oneStep_21 : decode cX12_oneStep 21 = .ok (.ifCond .eq 13, 3) := by decide +kernel
theorem dX12_oneStep_24 : decode cX12_oneStep 24 = .ok (.aload_n 0, 1) := by decide +kernel
theorem dX12_oneStep_25 : decode cX12_oneStep 25 = .ok (.iload 4, 2) := by decide +kernel
theorem dX12_oneStep_27 : decode cX12_oneStep 27 = .ok (.iload_n 2, 1) := by decide +kernel
theorem dX12_oneStep_28 : decode cX12_oneStep 28 = .ok (.invokevirtual 393, 3) := by decide +kernel
theorem dX12_oneStep_31 : decode cX12_oneStep 31 = .ok (.goto 4, 3) := by decide +kernel
theorem dX12_oneStep_34 : decode cX12_oneStep 34 = .ok (.iconst 0, 1) := by decide +kernel
theorem dX12_oneStep_35 : decode cX12_oneStep 35 = .ok (.ior, 1) := by decide +kernel
theorem dX12_oneStep_36 : decode cX12_oneStep 36 = .ok (.istore_n 3, 1) := by decide +kernel
theorem dX12_oneStep_37 : decode cX12_oneStep 37 = .ok (.iinc 4 1, 3) := by decide +kernel
theorem dX12_oneStep_40 : decode cX12_oneStep 40 = .ok (.goto (-35), 3) := by decide +kernel
theorem dX12_oneStep_43 : decode cX12_oneStep 43 = .ok (.iload_n 3, 1) := by decide +kernel
theorem dX12_oneStep_44 : decode cX12_oneStep 44 = .ok (.ireturn, 1) := by decide +kernel
theorem dX12_feudOf_0 : decode cX12_feudOf 0 = .ok (.iconst 1, 1) := by decide +kernel
theorem dX12_feudOf_1 : decode cX12_feudOf 1 = .ok (.iload_n 1, 1) := by decide +kernel
theorem dX12_feudOf_2 : decode cX12_feudOf 2 = .ok (.ishl, 1) := by decide +kernel
theorem dX12_feudOf_3 : decode cX12_feudOf 3 = .ok (.istore_n 3, 1) := by decide +kernel
theorem dX12_feudOf_4 : decode cX12_feudOf 4 = .ok (.iconst 0, 1) := by decide +kernel
theorem dX12_feudOf_5 : decode cX12_feudOf 5 = .ok (.istore 4, 2) := by decide +kernel
theorem dX12_feudOf_7 : decode cX12_feudOf 7 = .ok (.iload 4, 2) := by decide +kernel
theorem dX12_feudOf_9 : decode cX12_feudOf 9 = .ok (.bipush 6, 2) := by decide +kernel
theorem dX12_feudOf_11 : decode cX12_feudOf 11 = .ok (.if_icmp .ge 16, 3) := by decide +kernel
theorem dX12_feudOf_14 : decode cX12_feudOf 14 = .ok (.aload_n 0, 1) := by decide +kernel
theorem dX12_feudOf_15 : decode cX12_feudOf 15 = .ok (.iload_n 3, 1) := by decide +kernel
theorem dX12_feudOf_16 : decode cX12_feudOf 16 = .ok (.iload_n 2, 1) := by decide +kernel
theorem dX12_feudOf_17 : decode cX12_feudOf 17 = .ok (.invokevirtual 411, 3) := by decide +kernel
theorem dX12_feudOf_20 : decode cX12_feudOf 20 = .ok (.istore_n 3, 1) := by decide +kernel
theorem dX12_feudOf_21 : decode cX12_feudOf 21 = .ok (.iinc 4 1, 3) := by decide +kernel
theorem dX12_feudOf_24 : decode cX12_feudOf 24 = .ok (.goto (-17), 3) := by decide +kernel
theorem dX12_feudOf_27 : decode cX12_feudOf 27 = .ok (.iload_n 3, 1) := by decide +kernel
theorem dX12_feudOf_28 : decode cX12_feudOf 28 = .ok (.ireturn, 1) := by decide +kernel
theorem dX12_steps_0 : decode cX12_steps 0 = .ok (.aload_n 0, 1) := by decide +kernel
theorem dX12_steps_1 : decode cX12_steps 1 = .ok (.iconst 0, 1) := by decide +kernel
theorem dX12_steps_2 : decode cX12_steps 2 = .ok (.putfield 3, 3) := by decide +kernel
theorem dX12_steps_5 : decode cX12_steps 5 = .ok (.aload_n 0, 1) := by decide +kernel
theorem dX12_steps_6 : decode cX12_steps 6 = .ok (.aload_n 0, 1) := by decide +kernel
theorem dX12_steps_7 : decode cX12_steps 7 = .ok (.iload_n 1, 1) := by decide +kernel
theorem dX12_steps_8 : decode cX12_steps 8 = .ok (.invokevirtual 301, 3) := by decide +kernel
theorem dX12_steps_11 : decode cX12_steps 11 = .ok (.ifCond .ne 11, 3) := by decide +kernel
theorem dX12_steps_14 : decode cX12_steps 14 = .ok (.aload_n 0, 1) := by decide +kernel
theorem dX12_steps_15 : decode cX12_steps 15 = .ok (.iload_n 2, 1) := by decide +kernel
theorem dX12_steps_16 : decode cX12_steps 16 = .ok (.invokevirtual 301, 3) := by decide +kernel
theorem dX12_steps_19 : decode cX12_steps 19 = .ok (.ifCond .eq 7, 3) := by decide +kernel
theorem dX12_steps_22 : decode cX12_steps 22 = .ok (.iconst 1, 1) := by decide +kernel
theorem dX12_steps_23 : decode cX12_steps 23 = .ok (.goto 4, 3) := by decide +kernel
theorem dX12_steps_26 : decode cX12_steps 26 = .ok (.iconst 0, 1) := by decide +kernel
theorem dX12_steps_27 : decode cX12_steps 27 = .ok (.iconst 1, 1) := by decide +kernel
theorem dX12_steps_28 : decode cX12_steps 28 = .ok (.invokevirtual 269, 3) := by decide +kernel
theorem dX12_steps_31 : decode cX12_steps 31 = .ok (.ifCond .eq 5, 3) := by decide +kernel
theorem dX12_steps_34 : decode cX12_steps 34 = .ok (.iconst 0, 1) := by decide +kernel
theorem dX12_steps_35 : decode cX12_steps 35 = .ok (.ireturn, 1) := by decide +kernel
theorem dX12_steps_36 : decode cX12_steps 36 = .ok (.iconst 1, 1) := by decide +kernel
theorem dX12_steps_37 : decode cX12_steps 37 = .ok (.iload_n 1, 1) := by decide +kernel
theorem dX12_steps_38 : decode cX12_steps 38 = .ok (.ishl, 1) := by decide +kernel
theorem dX12_steps_39 : decode cX12_steps 39 = .ok (.istore_n 3, 1) := by decide +kernel
theorem dX12_steps_40 : decode cX12_steps 40 = .ok (.iconst 0, 1) := by decide +kernel
theorem dX12_steps_41 : decode cX12_steps 41 = .ok (.istore 4, 2) := by decide +kernel
theorem dX12_steps_43 : decode cX12_steps 43 = .ok (.iload 4, 2) := by decide +kernel
theorem dX12_steps_45 : decode cX12_steps 45 = .ok (.bipush 6, 2) := by decide +kernel
theorem dX12_steps_47 : decode cX12_steps 47 = .ok (.if_icmp .ge 30, 3) := by decide +kernel
theorem dX12_steps_50 : decode cX12_steps 50 = .ok (.iload_n 3, 1) := by decide +kernel
theorem dX12_steps_51 : decode cX12_steps 51 = .ok (.iload_n 2, 1) := by decide +kernel
theorem dX12_steps_52 : decode cX12_steps 52 = .ok (.invokestatic 80, 3) := by decide +kernel
theorem dX12_steps_55 : decode cX12_steps 55 = .ok (.ifCond .eq 6, 3) := by decide +kernel
theorem dX12_steps_58 : decode cX12_steps 58 = .ok (.iload 4, 2) := by decide +kernel
theorem dX12_steps_60 : decode cX12_steps 60 = .ok (.ireturn, 1) := by decide +kernel
theorem dX12_steps_61 : decode cX12_steps 61 = .ok (.aload_n 0, 1) := by decide +kernel
theorem dX12_steps_62 : decode cX12_steps 62 = .ok (.iload_n 3, 1) := by decide +kernel
theorem dX12_steps_63 : decode cX12_steps 63 = .ok (.aload_n 0, 1) := by decide +kernel
theorem dX12_steps_64 : decode cX12_steps 64 = .ok (.invokevirtual 291, 3) := by decide +kernel
theorem dX12_steps_67 : decode cX12_steps 67 = .ok (.invokevirtual 411, 3) := by decide +kernel
theorem dX12_steps_70 : decode cX12_steps 70 = .ok (.istore_n 3, 1) := by decide +kernel
theorem dX12_steps_71 : decode cX12_steps 71 = .ok (.iinc 4 1, 3) := by decide +kernel
theorem dX12_steps_74 : decode cX12_steps 74 = .ok (.goto (-31), 3) := by decide +kernel
theorem dX12_steps_77 : decode cX12_steps 77 = .ok (.iconst (-1), 1) := by decide +kernel
theorem dX12_steps_78 : decode cX12_steps 78 = .ok (.ireturn, 1) := by decide +kernel
theorem dX12_scornedBy_0 : decode cX12_scornedBy 0 = .ok (.iconst 0, 1) := by decide +kernel
theorem dX12_scornedBy_1 : decode cX12_scornedBy 1 = .ok (.istore_n 2, 1) := by decide +kernel
theorem dX12_scornedBy_2 : decode cX12_scornedBy 2 = .ok (.iconst 0, 1) := by decide +kernel
theorem dX12_scornedBy_3 : decode cX12_scornedBy 3 = .ok (.istore_n 3, 1) := by decide +kernel
theorem dX12_scornedBy_4 : decode cX12_scornedBy 4 = .ok (.iload_n 3, 1) := by decide +kernel
theorem dX12_scornedBy_5 : decode cX12_scornedBy 5 = .ok (.aload_n 0, 1) := by decide +kernel
theorem dX12_scornedBy_6 : decode cX12_scornedBy 6 = .ok (.invokevirtual 73, 3) := by decide +kernel
theorem dX12_scornedBy_9 : decode cX12_scornedBy 9 = .ok (.if_icmp .ge 45, 3) := by decide +kernel
theorem dX12_scornedBy_12 : decode cX12_scornedBy 12 = .ok (.iload_n 2, 1) := by decide +kernel
theorem dX12_scornedBy_13 : decode cX12_scornedBy 13 = .ok (.aload_n 0, 1) := by decide +kernel
theorem dX12_scornedBy_14 : decode cX12_scornedBy 14 = .ok (.iload_n 3, 1) := by decide +kernel
theorem dX12_scornedBy_15 : decode cX12_scornedBy 15 = .ok (.invokevirtual 76, 3) := by decide +kernel
theorem dX12_scornedBy_18 : decode cX12_scornedBy 18 = .ok (.ifCond .ne 27, 3) := by decide +kernel
theorem dX12_scornedBy_21 : decode cX12_scornedBy 21 = .ok (.iload_n 1, 1) := by decide +kernel
theorem dX12_scornedBy_22 : decode cX12_scornedBy 22 = .ok (.aload_n 0, 1) := by decide +kernel
theorem dX12_scornedBy_23 : decode cX12_scornedBy 23 = .ok (.iload_n 3, 1) := by decide +kernel
theorem dX12_scornedBy_24 : decode cX12_scornedBy 24 = .ok (.iconst 0, 1) := by decide +kernel
theorem dX12_scornedBy_25 : decode cX12_scornedBy 25 = .ok (.invokevirtual 70, 3) := by decide +kernel
theorem dX12_scornedBy_28 : decode cX12_scornedBy 28 = .ok (.invokestatic 80, 3) := by decide +kernel
theorem dX12_scornedBy_31 : decode cX12_scornedBy 31 = .ok (.ifCond .eq 14, 3) := by decide +kernel
theorem dX12_scornedBy_34 : decode cX12_scornedBy 34 = .ok (.iconst 1, 1) := by decide +kernel
theorem dX12_scornedBy_35 : decode cX12_scornedBy 35 = .ok (.aload_n 0, 1) := by decide +kernel
theorem dX12_scornedBy_36 : decode cX12_scornedBy 36 = .ok (.iload_n 3, 1) := by decide +kernel
theorem dX12_scornedBy_37 : decode cX12_scornedBy 37 = .ok (.iconst 1, 1) := by decide +kernel
theorem dX12_scornedBy_38 : decode cX12_scornedBy 38 = .ok (.invokevirtual 70, 3) := by decide +kernel
theorem dX12_scornedBy_41 : decode cX12_scornedBy 41 = .ok (.ishl, 1) := by decide +kernel
theorem dX12_scornedBy_42 : decode cX12_scornedBy 42 = .ok (.goto 4, 3) := by decide +kernel
theorem dX12_scornedBy_45 : decode cX12_scornedBy 45 = .ok (.iconst 0, 1) := by decide +kernel
theorem dX12_scornedBy_46 : decode cX12_scornedBy 46 = .ok (.ior, 1) := by decide +kernel
theorem dX12_scornedBy_47 : decode cX12_scornedBy 47 = .ok (.istore_n 2, 1) := by decide +kernel
theorem dX12_scornedBy_48 : decode cX12_scornedBy 48 = .ok (.iinc 3 1, 3) := by decide +kernel
theorem dX12_scornedBy_51 : decode cX12_scornedBy 51 = .ok (.goto (-47), 3) := by decide +kernel
theorem dX12_scornedBy_54 : decode cX12_scornedBy 54 = .ok (.iload_n 2, 1) := by decide +kernel
theorem dX12_scornedBy_55 : decode cX12_scornedBy 55 = .ok (.ireturn, 1) := by decide +kernel
theorem dX12_ring_0 : decode cX12_ring 0 = .ok (.aload_n 0, 1) := by decide +kernel
theorem dX12_ring_1 : decode cX12_ring 1 = .ok (.iconst 0, 1) := by decide +kernel
theorem dX12_ring_2 : decode cX12_ring 2 = .ok (.putfield 3, 3) := by decide +kernel
theorem dX12_ring_5 : decode cX12_ring 5 = .ok (.aload_n 0, 1) := by decide +kernel
theorem dX12_ring_6 : decode cX12_ring 6 = .ok (.aload_n 0, 1) := by decide +kernel
theorem dX12_ring_7 : decode cX12_ring 7 = .ok (.iload_n 1, 1) := by decide +kernel
theorem dX12_ring_8 : decode cX12_ring 8 = .ok (.invokevirtual 301, 3) := by decide +kernel
theorem dX12_ring_11 : decode cX12_ring 11 = .ok (.iconst 1, 1) := by decide +kernel
theorem dX12_ring_12 : decode cX12_ring 12 = .ok (.invokevirtual 269, 3) := by decide +kernel
theorem dX12_ring_15 : decode cX12_ring 15 = .ok (.ifCond .eq 5, 3) := by decide +kernel
theorem dX12_ring_18 : decode cX12_ring 18 = .ok (.iconst 0, 1) := by decide +kernel
theorem dX12_ring_19 : decode cX12_ring 19 = .ok (.ireturn, 1) := by decide +kernel
theorem dX12_ring_20 : decode cX12_ring 20 = .ok (.aload_n 0, 1) := by decide +kernel
theorem dX12_ring_21 : decode cX12_ring 21 = .ok (.iconst 1, 1) := by decide +kernel
theorem dX12_ring_22 : decode cX12_ring 22 = .ok (.iload_n 1, 1) := by decide +kernel
theorem dX12_ring_23 : decode cX12_ring 23 = .ok (.ishl, 1) := by decide +kernel
theorem dX12_ring_24 : decode cX12_ring 24 = .ok (.invokevirtual 414, 3) := by decide +kernel
theorem dX12_ring_27 : decode cX12_ring 27 = .ok (.istore_n 2, 1) := by decide +kernel
theorem dX12_ring_28 : decode cX12_ring 28 = .ok (.iconst 0, 1) := by decide +kernel
theorem dX12_ring_29 : decode cX12_ring 29 = .ok (.istore_n 3, 1) := by decide +kernel
theorem dX12_ring_30 : decode cX12_ring 30 = .ok (.iload_n 3, 1) := by decide +kernel
theorem dX12_ring_31 : decode cX12_ring 31 = .ok (.bipush 6, 2) := by decide +kernel
theorem dX12_ring_33 : decode cX12_ring 33 = .ok (.if_icmp .ge 17, 3) := by decide +kernel
theorem dX12_ring_36 : decode cX12_ring 36 = .ok (.iload_n 2, 1) := by decide +kernel
theorem dX12_ring_37 : decode cX12_ring 37 = .ok (.aload_n 0, 1) := by decide +kernel
theorem dX12_ring_38 : decode cX12_ring 38 = .ok (.iload_n 2, 1) := by decide +kernel
theorem dX12_ring_39 : decode cX12_ring 39 = .ok (.invokevirtual 414, 3) := by decide +kernel
theorem dX12_ring_42 : decode cX12_ring 42 = .ok (.ior, 1) := by decide +kernel
theorem dX12_ring_43 : decode cX12_ring 43 = .ok (.istore_n 2, 1) := by decide +kernel
theorem dX12_ring_44 : decode cX12_ring 44 = .ok (.iinc 3 1, 3) := by decide +kernel
theorem dX12_ring_47 : decode cX12_ring 47 = .ok (.goto (-17), 3) := by decide +kernel
theorem dX12_ring_50 : decode cX12_ring 50 = .ok (.iload_n 2, 1) := by decide +kernel
theorem dX12_ring_51 : decode cX12_ring 51 = .ok (.iload_n 1, 1) := by decide +kernel
theorem dX12_ring_52 : decode cX12_ring 52 = .ok (.invokestatic 80, 3) := by decide +kernel
theorem dX12_ring_55 : decode cX12_ring 55 = .ok (.ireturn, 1) := by decide +kernel
theorem dX12_feud_0 : decode cX12_feud 0 = .ok (.aload_n 0, 1) := by decide +kernel
theorem dX12_feud_1 : decode cX12_feud 1 = .ok (.iconst 0, 1) := by decide +kernel
theorem dX12_feud_2 : decode cX12_feud 2 = .ok (.putfield 3, 3) := by decide +kernel
theorem dX12_feud_5 : decode cX12_feud 5 = .ok (.iconst 0, 1) := by decide +kernel
theorem dX12_feud_6 : decode cX12_feud 6 = .ok (.istore_n 1, 1) := by decide +kernel
theorem dX12_feud_7 : decode cX12_feud 7 = .ok (.iconst 0, 1) := by decide +kernel
theorem dX12_feud_8 : decode cX12_feud 8 = .ok (.istore_n 2, 1) := by decide +kernel
theorem dX12_feud_9 : decode cX12_feud 9 = .ok (.iload_n 2, 1) := by decide +kernel
theorem dX12_feud_10 : decode cX12_feud 10 = .ok (.aload_n 0, 1) := by decide +kernel
theorem dX12_feud_11 : decode cX12_feud 11 = .ok (.invokevirtual 59, 3) := by decide +kernel
theorem dX12_feud_14 : decode cX12_feud 14 = .ok (.if_icmp .ge 26, 3) := by decide +kernel
theorem dX12_feud_17 : decode cX12_feud 17 = .ok (.iload_n 1, 1) := by decide +kernel
theorem dX12_feud_18 : decode cX12_feud 18 = .ok (.aload_n 0, 1) := by decide +kernel
theorem dX12_feud_19 : decode cX12_feud 19 = .ok (.iload_n 2, 1) := by decide +kernel
theorem dX12_feud_20 : decode cX12_feud 20 = .ok (.aload_n 0, 1) := by decide +kernel
theorem dX12_feud_21 : decode cX12_feud 21 = .ok (.invokevirtual 291, 3) := by decide +kernel
theorem dX12_feud_24 : decode cX12_feud 24 = .ok (.invokevirtual 417, 3) := by decide +kernel
theorem dX12_feud_27 : decode cX12_feud 27 = .ok (.invokestatic 343, 3) := by decide +kernel
theorem dX12_feud_30 : decode cX12_feud 30 = .ok (.invokestatic 310, 3) := by decide +kernel
theorem dX12_feud_33 : decode cX12_feud 33 = .ok (.istore_n 1, 1) := by decide +kernel
theorem dX12_feud_34 : decode cX12_feud 34 = .ok (.iinc 2 1, 3) := by decide +kernel
theorem dX12_feud_37 : decode cX12_feud 37 = .ok (.goto (-28), 3) := by decide +kernel
theorem dX12_feud_40 : decode cX12_feud 40 = .ok (.iload_n 1, 1) := by decide +kernel
theorem dX12_feud_41 : decode cX12_feud 41 = .ok (.ireturn, 1) := by decide +kernel
theorem dX12_between_0 : decode cX12_between 0 = .ok (.aload_n 0, 1) := by decide +kernel
theorem dX12_between_1 : decode cX12_between 1 = .ok (.iconst 0, 1) := by decide +kernel
theorem dX12_between_2 : decode cX12_between 2 = .ok (.putfield 3, 3) := by decide +kernel
theorem dX12_between_5 : decode cX12_between 5 = .ok (.aload_n 0, 1) := by decide +kernel
theorem dX12_between_6 : decode cX12_between 6 = .ok (.invokevirtual 291, 3) := by decide +kernel
theorem dX12_between_9 : decode cX12_between 9 = .ok (.istore_n 1, 1) := by decide +kernel
theorem dX12_between_10 : decode cX12_between 10 = .ok (.iconst 0, 1) := by decide +kernel
theorem dX12_between_11 : decode cX12_between 11 = .ok (.istore_n 2, 1) := by decide +kernel
theorem dX12_between_12 : decode cX12_between 12 = .ok (.iconst 0, 1) := by decide +kernel
theorem dX12_between_13 : decode cX12_between 13 = .ok (.istore_n 3, 1) := by decide +kernel
theorem dX12_between_14 : decode cX12_between 14 = .ok (.iload_n 3, 1) := by decide +kernel
theorem dX12_between_15 : decode cX12_between 15 = .ok (.aload_n 0, 1) := by decide +kernel
theorem dX12_between_16 : decode cX12_between 16 = .ok (.invokevirtual 73, 3) := by decide +kernel
theorem dX12_between_19 : decode cX12_between 19 = .ok (.if_icmp .ge 52, 3) := by decide +kernel
theorem dX12_between_22 : decode cX12_between 22 = .ok (.iload_n 1, 1) := by decide +kernel
theorem dX12_between_23 : decode cX12_between 23 = .ok (.iload_n 3, 1) := by decide +kernel
theorem dX12_between_24 : decode cX12_between 24 = .ok (.invokestatic 80, 3) := by decide +kernel
theorem dX12_between_27 : decode cX12_between 27 = .ok (.ifCond .eq 38, 3) := by decide +kernel
theorem dX12_between_30 : decode cX12_between 30 = .ok (.aload_n 0, 1) := by decide +kernel
theorem dX12_between_31 : decode cX12_between 31 = .ok (.aload_n 0, 1) := by decide +kernel
theorem dX12_between_32 : decode cX12_between 32 = .ok (.iload_n 3, 1) := by decide +kernel
theorem dX12_between_33 : decode cX12_between 33 = .ok (.iconst 0, 1) := by decide +kernel
theorem dX12_between_34 : decode cX12_between 34 = .ok (.invokevirtual 70, 3) := by decide +kernel
theorem dX12_between_37 : decode cX12_between 37 = .ok (.iload_n 1, 1) := by decide +kernel
theorem dX12_between_38 : decode cX12_between 38 = .ok (.iconst 1, 1) := by decide +kernel
theorem dX12_between_39 : decode cX12_between 39 = .ok (.iload_n 3, 1) := by decide +kernel
theorem dX12_between_40 : decode cX12_between 40 = .ok (.ishl, 1) := by decide +kernel
theorem dX12_between_41 : decode cX12_between 41 = .ok (.iconst (-1), 1) := by decide +kernel
theorem dX12_between_42 : decode cX12_between 42 = .ok (.ixor, 1) := by decide +kernel
theorem dX12_between_43 : decode cX12_between 43 = .ok (.iand, 1) := by decide +kernel
theorem dX12_between_44 : decode cX12_between 44 = .ok (.invokevirtual 417, 3) := by decide +kernel
theorem dX12_between_47 : decode cX12_between 47 = .ok (.aload_n 0, 1) := by decide +kernel
theorem dX12_between_48 : decode cX12_between 48 = .ok (.iload_n 3, 1) := by decide +kernel
theorem dX12_between_49 : decode cX12_between 49 = .ok (.iconst 1, 1) := by decide +kernel
theorem dX12_between_50 : decode cX12_between 50 = .ok (.invokevirtual 70, 3) := by decide +kernel
theorem dX12_between_53 : decode cX12_between 53 = .ok (.invokestatic 80, 3) := by decide +kernel
theorem dX12_between_56 : decode cX12_between 56 = .ok (.ifCond .ne 9, 3) := by decide +kernel
theorem dX12_between_59 : decode cX12_between 59 = .ok (.iload_n 2, 1) := by decide +kernel
theorem dX12_between_60 : decode cX12_between 60 = .ok (.iconst 1, 1) := by decide +kernel
theorem dX12_between_61 : decode cX12_between 61 = .ok (.iload_n 3, 1) := by decide +kernel
theorem dX12_between_62 : decode cX12_between 62 = .ok (.ishl, 1) := by decide +kernel
theorem dX12_between_63 : decode cX12_between 63 = .ok (.ior, 1) := by decide +kernel
theorem dX12_between_64 : decode cX12_between 64 = .ok (.istore_n 2, 1) := by decide +kernel
theorem dX12_between_65 : decode cX12_between 65 = .ok (.iinc 3 1, 3) := by decide +kernel
theorem dX12_between_68 : decode cX12_between 68 = .ok (.goto (-54), 3) := by decide +kernel
theorem dX12_between_71 : decode cX12_between 71 = .ok (.iload_n 2, 1) := by decide +kernel
theorem dX12_between_72 : decode cX12_between 72 = .ok (.ireturn, 1) := by decide +kernel
theorem dX12_firstOf_0 : decode cX12_firstOf 0 = .ok (.iload_n 0, 1) := by decide +kernel
theorem dX12_firstOf_1 : decode cX12_firstOf 1 = .ok (.invokestatic 420, 3) := by decide +kernel
theorem dX12_firstOf_4 : decode cX12_firstOf 4 = .ok (.ireturn, 1) := by decide +kernel
theorem dX12_kissingBy_0 : decode cX12_kissingBy 0 = .ok (.iload_n 1, 1) := by decide +kernel
theorem dX12_kissingBy_1 : decode cX12_kissingBy 1 = .ok (.invokestatic 423, 3) := by decide +kernel
theorem dX12_kissingBy_4 : decode cX12_kissingBy 4 = .ok (.istore_n 3, 1) := by decide +kernel
theorem dX12_kissingBy_5 : decode cX12_kissingBy 5 = .ok (.iload_n 1, 1) := by decide +kernel
theorem dX12_kissingBy_6 : decode cX12_kissingBy 6 = .ok (.iconst 1, 1) := by decide +kernel
theorem dX12_kissingBy_7 : decode cX12_kissingBy 7 = .ok (.iload_n 3, 1) := by decide +kernel
theorem dX12_kissingBy_8 : decode cX12_kissingBy 8 = .ok (.ishl, 1) := by decide +kernel
theorem dX12_kissingBy_9 : decode cX12_kissingBy 9 = .ok (.iconst (-1), 1) := by decide +kernel
theorem dX12_kissingBy_10 : decode cX12_kissingBy 10 = .ok (.ixor, 1) := by decide +kernel
theorem dX12_kissingBy_11 : decode cX12_kissingBy 11 = .ok (.iand, 1) := by decide +kernel
theorem dX12_kissingBy_12 : decode cX12_kissingBy 12 = .ok (.istore 4, 2) := by decide +kernel
theorem dX12_kissingBy_14 : decode cX12_kissingBy 14 = .ok (.iload_n 2, 1) := by decide +kernel
theorem dX12_kissingBy_15 : decode cX12_kissingBy 15 = .ok (.iconst (-1), 1) := by decide +kernel
theorem dX12_kissingBy_16 : decode cX12_kissingBy 16 = .ok (.if_icmp .ne 11, 3) := by decide +kernel
theorem dX12_kissingBy_19 : decode cX12_kissingBy 19 = .ok (.aload_n 0, 1) := by decide +kernel
theorem dX12_kissingBy_20 : decode cX12_kissingBy 20 = .ok (.getfield 42, 3) := by decide +kernel
theorem dX12_kissingBy_23 : decode cX12_kissingBy 23 = .ok (.iload 4, 2) := by decide +kernel
theorem dX12_kissingBy_25 : decode cX12_kissingBy 25 = .ok (.iaload, 1) := by decide +kernel
theorem dX12_kissingBy_26 : decode cX12_kissingBy 26 = .ok (.ireturn, 1) := by decide +kernel
theorem dX12_kissingBy_27 : decode cX12_kissingBy 27 = .ok (.iload 4, 2) := by decide +kernel
theorem dX12_kissingBy_29 : decode cX12_kissingBy 29 = .ok (.iload_n 2, 1) := by decide +kernel
theorem dX12_kissingBy_30 : decode cX12_kissingBy 30 = .ok (.invokestatic 80, 3) := by decide +kernel
theorem dX12_kissingBy_33 : decode cX12_kissingBy 33 = .ok (.ifCond .eq 19, 3) := by decide +kernel
theorem dX12_kissingBy_36 : decode cX12_kissingBy 36 = .ok (.aload_n 0, 1) := by decide +kernel
theorem dX12_kissingBy_37 : decode cX12_kissingBy 37 = .ok (.iload_n 3, 1) := by decide +kernel
theorem dX12_kissingBy_38 : decode cX12_kissingBy 38 = .ok (.aload_n 0, 1) := by decide +kernel
theorem dX12_kissingBy_39 : decode cX12_kissingBy 39 = .ok (.invokevirtual 291, 3) := by decide +kernel
theorem dX12_kissingBy_42 : decode cX12_kissingBy 42 = .ok (.invokevirtual 393, 3) := by decide +kernel
theorem dX12_kissingBy_45 : decode cX12_kissingBy 45 = .ok (.iload_n 2, 1) := by decide +kernel
theorem dX12_kissingBy_46 : decode cX12_kissingBy 46 = .ok (.invokestatic 80, 3) := by decide +kernel
theorem dX12_kissingBy_49 : decode cX12_kissingBy 49 = .ok (.ifCond .eq 5, 3) := by decide +kernel
theorem dX12_kissingBy_52 : decode cX12_kissingBy 52 = .ok (.iconst (-1), 1) := by decide +kernel
theorem dX12_kissingBy_53 : decode cX12_kissingBy 53 = .ok (.ireturn, 1) := by decide +kernel
theorem dX12_kissingBy_54 : decode cX12_kissingBy 54 = .ok (.aload_n 0, 1) := by decide +kernel
theorem dX12_kissingBy_55 : decode cX12_kissingBy 55 = .ok (.iload_n 3, 1) := by decide +kernel
theorem dX12_kissingBy_56 : decode cX12_kissingBy 56 = .ok (.iconst 0, 1) := by decide +kernel
theorem dX12_kissingBy_57 : decode cX12_kissingBy 57 = .ok (.invokevirtual 272, 3) := by decide +kernel
theorem dX12_kissingBy_60 : decode cX12_kissingBy 60 = .ok (.aload_n 0, 1) := by decide +kernel
theorem dX12_kissingBy_61 : decode cX12_kissingBy 61 = .ok (.iload_n 2, 1) := by decide +kernel
theorem dX12_kissingBy_62 : decode cX12_kissingBy 62 = .ok (.iconst 0, 1) := by decide +kernel
theorem dX12_kissingBy_63 : decode cX12_kissingBy 63 = .ok (.invokevirtual 272, 3) := by decide +kernel
theorem dX12_kissingBy_66 : decode cX12_kissingBy 66 = .ok (.iadd, 1) := by decide +kernel
theorem dX12_kissingBy_67 : decode cX12_kissingBy 67 = .ok (.aload_n 0, 1) := by decide +kernel
theorem dX12_kissingBy_68 : decode cX12_kissingBy 68 = .ok (.getfield 42, 3) := by decide +kernel
theorem dX12_kissingBy_71 : decode cX12_kissingBy 71 = .ok (.iload 4, 2) := by decide +kernel
theorem dX12_kissingBy_73 : decode cX12_kissingBy 73 = .ok (.iconst 1, 1) := by decide +kernel
theorem dX12_kissingBy_74 : decode cX12_kissingBy 74 = .ok (.iload_n 2, 1) := by decide +kernel
theorem dX12_kissingBy_75 : decode cX12_kissingBy 75 = .ok (.ishl, 1) := by decide +kernel
theorem dX12_kissingBy_76 : decode cX12_kissingBy 76 = .ok (.iconst (-1), 1) := by decide +kernel
theorem dX12_kissingBy_77 : decode cX12_kissingBy 77 = .ok (.ixor, 1) := by decide +kernel
theorem dX12_kissingBy_78 : decode cX12_kissingBy 78 = .ok (.iand, 1) := by decide +kernel
theorem dX12_kissingBy_79 : decode cX12_kissingBy 79 = .ok (.iaload, 1) := by decide +kernel
theorem dX12_kissingBy_80 : decode cX12_kissingBy 80 = .ok (.iadd, 1) := by decide +kernel
theorem dX12_kissingBy_81 : decode cX12_kissingBy 81 = .ok (.ireturn, 1) := by decide +kernel
theorem dX12_laysKissing_0 : decode cX12_laysKissing 0 = .ok (.aload_n 0, 1) := by decide +kernel
theorem dX12_laysKissing_1 : decode cX12_laysKissing 1 = .ok (.getfield 42, 3) := by decide +kernel
theorem dX12_laysKissing_4 : decode cX12_laysKissing 4 = .ok (.iconst 0, 1) := by decide +kernel
theorem dX12_laysKissing_5 : decode cX12_laysKissing 5 = .ok (.iconst 0, 1) := by decide +kernel
theorem dX12_laysKissing_6 : decode cX12_laysKissing 6 = .ok (.iastore, 1) := by decide +kernel
theorem dX12_laysKissing_7 : decode cX12_laysKissing 7 = .ok (.iconst 1, 1) := by decide +kernel
theorem dX12_laysKissing_8 : decode cX12_laysKissing 8 = .ok (.istore_n 1, 1) := by decide +kernel
theorem dX12_laysKissing_9 : decode cX12_laysKissing 9 = .ok (.iload_n 1, 1) := by decide +kernel
theorem dX12_laysKissing_10 : decode cX12_laysKissing 10 = .ok (.aload_n 0, 1) := by decide +kernel
theorem dX12_laysKissing_11 : decode cX12_laysKissing 11 = .ok (.invokevirtual 387, 3) := by decide +kernel
theorem dX12_laysKissing_14 : decode cX12_laysKissing 14 = .ok (.if_icmp .gt 45, 3) := by decide +kernel
theorem dX12_laysKissing_17 : decode cX12_laysKissing 17 = .ok (.iconst 0, 1) := by decide +kernel
theorem dX12_laysKissing_18 : decode cX12_laysKissing 18 = .ok (.istore_n 2, 1) := by decide +kernel
theorem dX12_laysKissing_19 : decode cX12_laysKissing 19 = .ok (.iconst (-1), 1) := by decide +kernel
theorem dX12_laysKissing_20 : decode cX12_laysKissing 20 = .ok (.istore_n 3, 1) := by decide +kernel
theorem dX12_laysKissing_21 : decode cX12_laysKissing 21 = .ok (.iload_n 3, 1) := by decide +kernel
theorem dX12_laysKissing_22 : decode cX12_laysKissing 22 = .ok (.aload_n 0, 1) := by decide +kernel
theorem dX12_laysKissing_23 : decode cX12_laysKissing 23 = .ok (.invokevirtual 59, 3) := by decide +kernel
theorem dX12_laysKissing_26 : decode cX12_laysKissing 26 = .ok (.if_icmp .ge 20, 3) := by decide +kernel
theorem dX12_laysKissing_29 : decode cX12_laysKissing 29 = .ok (.iload_n 2, 1) := by decide +kernel
theorem dX12_laysKissing_30 : decode cX12_laysKissing 30 = .ok (.aload_n 0, 1) := by decide +kernel
theorem dX12_laysKissing_31 : decode cX12_laysKissing 31 = .ok (.iload_n 1, 1) := by decide +kernel
theorem dX12_laysKissing_32 : decode cX12_laysKissing 32 = .ok (.iload_n 3, 1) := by decide +kernel
theorem dX12_laysKissing_33 : decode cX12_laysKissing 33 = .ok (.invokevirtual 426, 3) := by decide +kernel
theorem dX12_laysKissing_36 : decode cX12_laysKissing 36 = .ok (.invokestatic 310, 3) := by decide +kernel
theorem dX12_laysKissing_39 : decode cX12_laysKissing 39 = .ok (.istore_n 2, 1) := by decide +kernel
theorem dX12_laysKissing_40 : decode cX12_laysKissing 40 = .ok (.iinc 3 1, 3) := by decide +kernel
theorem dX12_laysKissing_43 : decode cX12_laysKissing 43 = .ok (.goto (-22), 3) := by decide +kernel
theorem dX12_laysKissing_46 : decode cX12_laysKissing 46 = .ok (.aload_n 0, 1) := by decide +kernel
theorem dX12_laysKissing_47 : decode cX12_laysKissing 47 = .ok (.getfield 42, 3) := by decide +kernel
theorem dX12_laysKissing_50 : decode cX12_laysKissing 50 = .ok (.iload_n 1, 1) := by decide +kernel
theorem dX12_laysKissing_51 : decode cX12_laysKissing 51 = .ok (.iload_n 2, 1) := by decide +kernel
theorem dX12_laysKissing_52 : decode cX12_laysKissing 52 = .ok (.iastore, 1) := by decide +kernel
theorem dX12_laysKissing_53 : decode cX12_laysKissing 53 = .ok (.iinc 1 1, 3) := by decide +kernel
theorem dX12_laysKissing_56 : decode cX12_laysKissing 56 = .ok (.goto (-47), 3) := by decide +kernel
theorem dX12_laysKissing_59 : decode cX12_laysKissing 59 = .ok (.return_, 1) := by decide +kernel
theorem dX12_kisses_0 : decode cX12_kisses 0 = .ok (.aload_n 0, 1) := by decide +kernel
theorem dX12_kisses_1 : decode cX12_kisses 1 = .ok (.iconst 0, 1) := by decide +kernel
theorem dX12_kisses_2 : decode cX12_kisses 2 = .ok (.putfield 3, 3) := by decide +kernel
theorem dX12_kisses_5 : decode cX12_kisses 5 = .ok (.aload_n 0, 1) := by decide +kernel
theorem dX12_kisses_6 : decode cX12_kisses 6 = .ok (.iload_n 1, 1) := by decide +kernel
theorem dX12_kisses_7 : decode cX12_kisses 7 = .ok (.iconst (-1), 1) := by decide +kernel
theorem dX12_kisses_8 : decode cX12_kisses 8 = .ok (.if_icmp .eq 15, 3) := by decide +kernel
theorem dX12_kisses_11 : decode cX12_kisses 11 = .ok (.aload_n 0, 1) := by decide +kernel
theorem dX12_kisses_12 : decode cX12_kisses 12 = .ok (.iload_n 1, 1) := by decide +kernel
theorem dX12_kisses_13 : decode cX12_kisses 13 = .ok (.invokevirtual 301, 3) := by decide +kernel
theorem dX12_kisses_16 : decode cX12_kisses 16 = .ok (.ifCond .eq 7, 3) := by decide +kernel
theorem dX12_kisses_19 : decode cX12_kisses 19 = .ok (.iconst 1, 1) := by decide +kernel
theorem dX12_kisses_20 : decode cX12_kisses 20 = .ok (.goto 4, 3) := by decide +kernel
theorem dX12_kisses_23 : decode cX12_kisses 23 = .ok (.iconst 0, 1) := by decide +kernel
theorem dX12_kisses_24 : decode cX12_kisses 24 = .ok (.iconst 1, 1) := by decide +kernel
theorem dX12_kisses_25 : decode cX12_kisses 25 = .ok (.invokevirtual 269, 3) := by decide +kernel
theorem dX12_kisses_28 : decode cX12_kisses 28 = .ok (.ifCond .eq 5, 3) := by decide +kernel
theorem dX12_kisses_31 : decode cX12_kisses 31 = .ok (.iconst 0, 1) := by decide +kernel
theorem dX12_kisses_32 : decode cX12_kisses 32 = .ok (.ireturn, 1) := by decide +kernel
theorem dX12_kisses_33 : decode cX12_kisses 33 = .ok (.aload_n 0, 1) := by decide +kernel
theorem dX12_kisses_34 : decode cX12_kisses 34 = .ok (.invokevirtual 429, 3) := by decide +kernel
theorem dX12_kisses_37 : decode cX12_kisses 37 = .ok (.iload_n 1, 1) := by decide +kernel
theorem dX12_kisses_38 : decode cX12_kisses 38 = .ok (.iconst (-1), 1) := by decide +kernel
theorem dX12_kisses_39 : decode cX12_kisses 39 = .ok (.if_icmp .ne 13, 3) := by decide +kernel
theorem dX12_kisses_42 : decode cX12_kisses 42 = .ok (.aload_n 0, 1) := by decide +kernel
theorem dX12_kisses_43 : decode cX12_kisses 43 = .ok (.getfield 42, 3) := by decide +kernel
theorem dX12_kisses_46 : decode cX12_kisses 46 = .ok (.aload_n 0, 1) := by decide +kernel
theorem dX12_kisses_47 : decode cX12_kisses 47 = .ok (.invokevirtual 387, 3) := by decide +kernel
theorem dX12_kisses_50 : decode cX12_kisses 50 = .ok (.iaload, 1) := by decide +kernel
theorem dX12_kisses_51 : decode cX12_kisses 51 = .ok (.ireturn, 1) := by decide +kernel
theorem dX12_kisses_52 : decode cX12_kisses 52 = .ok (.aload_n 0, 1) := by decide +kernel
theorem dX12_kisses_53 : decode cX12_kisses 53 = .ok (.invokevirtual 387, 3) := by decide +kernel
theorem dX12_kisses_56 : decode cX12_kisses 56 = .ok (.istore_n 2, 1) := by decide +kernel
theorem dX12_kisses_57 : decode cX12_kisses 57 = .ok (.iconst (-1), 1) := by decide +kernel
theorem dX12_kisses_58 : decode cX12_kisses 58 = .ok (.istore_n 3, 1) := by decide +kernel
theorem dX12_kisses_59 : decode cX12_kisses 59 = .ok (.iconst 0, 1) := by decide +kernel
theorem dX12_kisses_60 : decode cX12_kisses 60 = .ok (.istore 4, 2) := by decide +kernel
theorem dX12_kisses_62 : decode cX12_kisses 62 = .ok (.iload 4, 2) := by decide +kernel
theorem dX12_kisses_64 : decode cX12_kisses 64 = .ok (.ifCond .ne 98, 3) := by decide +kernel
theorem dX12_kisses_67 : decode cX12_kisses 67 = .ok (.iload_n 2, 1) := by decide +kernel
theorem dX12_kisses_68 : decode cX12_kisses 68 = .ok (.invokestatic 423, 3) := by decide +kernel
theorem dX12_kisses_71 : decode cX12_kisses 71 = .ok (.istore 5, 2) := by decide +kernel
theorem dX12_kisses_73 : decode cX12_kisses 73 = .ok (.iconst (-1), 1) := by decide +kernel
theorem dX12_kisses_74 : decode cX12_kisses 74 = .ok (.istore 6, 2) := by decide +kernel
theorem dX12_kisses_76 : decode cX12_kisses 76 = .ok (.aload_n 0, 1) := by decide +kernel
theorem dX12_kisses_77 : decode cX12_kisses 77 = .ok (.iload_n 2, 1) := by decide +kernel
theorem dX12_kisses_78 : decode cX12_kisses 78 = .ok (.iload 6, 2) := by decide +kernel
theorem dX12_kisses_80 : decode cX12_kisses 80 = .ok (.invokevirtual 426, 3) := by decide +kernel
theorem dX12_kisses_83 : decode cX12_kisses 83 = .ok (.aload_n 0, 1) := by decide +kernel
theorem dX12_kisses_84 : decode cX12_kisses 84 = .ok (.getfield 42, 3) := by decide +kernel
theorem dX12_kisses_87 : decode cX12_kisses 87 = .ok (.iload_n 2, 1) := by decide +kernel
theorem dX12_kisses_88 : decode cX12_kisses 88 = .ok (.iaload, 1) := by decide +kernel
theorem dX12_kisses_89 : decode cX12_kisses 89 = .ok (.if_icmp .eq 9, 3) := by decide +kernel
theorem dX12_kisses_92 : decode cX12_kisses 92 = .ok (.iinc 6 1, 3) := by decide +kernel
theorem dX12_kisses_95 : decode cX12_kisses 95 = .ok (.goto (-19), 3) := by decide +kernel
theorem dX12_kisses_98 : decode cX12_kisses 98 = .ok (.iload 5, 2) := by decide +kernel
theorem dX12_kisses_100 : decode cX12_kisses 100 = .ok (.iload_n 1, 1) := by decide +kernel
theorem dX12_kisses_101 : decode cX12_kisses 101 = .ok (.if_icmp .eq 9, 3) := by decide +kernel
theorem dX12_kisses_104 : decode cX12_kisses 104 = .ok (.iload 6, 2) := by decide +kernel
theorem dX12_kisses_106 : decode cX12_kisses 106 = .ok (.iload_n 1, 1) := by decide +kernel
theorem dX12_kisses_107 : decode cX12_kisses 107 = .ok (.if_icmp .ne 7, 3) := by decide +kernel
theorem dX12_kisses_110 : decode cX12_kisses 110 = .ok (.iconst 1, 1) := by decide +kernel
theorem dX12_kisses_111 : decode cX12_kisses 111 = .ok (.goto 4, 3) := by decide +kernel
theorem dX12_kisses_114 : decode cX12_kisses 114 = .ok (.iconst 0, 1) := by decide +kernel
theorem dX12_kisses_115 : decode cX12_kisses 115 = .ok (.istore 4, 2) := by decide +kernel
theorem dX12_kisses_117 : decode cX12_kisses 117 = .ok (.iload 5, 2) := by decide +kernel
theorem dX12_kisses_119 : decode cX12_kisses 119 = .ok (.iload_n 1, 1) := by decide +kernel
theorem dX12_kisses_120 : decode cX12_kisses 120 = .ok (.if_icmp .ne 8, 3) := by decide +kernel
theorem dX12_kisses_123 : decode cX12_kisses 123 = .ok (.iload 6, 2) := by decide +kernel
theorem dX12_kisses_125 : decode cX12_kisses 125 = .ok (.goto 5, 3) := by decide +kernel
theorem dX12_kisses_128 : decode cX12_kisses 128 = .ok (.iload 5, 2) := by decide +kernel
theorem dX12_kisses_130 : decode cX12_kisses 130 = .ok (.istore_n 3, 1) := by decide +kernel
theorem dX12_kisses_131 : decode cX12_kisses 131 = .ok (.iload_n 2, 1) := by decide +kernel
theorem dX12_kisses_132 : decode cX12_kisses 132 = .ok (.iconst 1, 1) := by decide +kernel
theorem dX12_kisses_133 : decode cX12_kisses 133 = .ok (.iload 5, 2) := by decide +kernel
theorem dX12_kisses_135 : decode cX12_kisses 135 = .ok (.ishl, 1) := by decide +kernel
theorem dX12_kisses_136 : decode cX12_kisses 136 = .ok (.iconst (-1), 1) := by decide +kernel
theorem dX12_kisses_137 : decode cX12_kisses 137 = .ok (.ixor, 1) := by decide +kernel
theorem dX12_kisses_138 : decode cX12_kisses 138 = .ok (.iand, 1) := by decide +kernel
theorem dX12_kisses_139 : decode cX12_kisses 139 = .ok (.istore_n 2, 1) := by decide +kernel
theorem dX12_kisses_140 : decode cX12_kisses 140 = .ok (.iload 6, 2) := by decide +kernel
theorem dX12_kisses_142 : decode cX12_kisses 142 = .ok (.iconst (-1), 1) := by decide +kernel
theorem dX12_kisses_143 : decode cX12_kisses 143 = .ok (.if_icmp .ne 7, 3) := by decide +kernel
theorem dX12_kisses_146 : decode cX12_kisses 146 = .ok (.iload_n 2, 1) := by decide +kernel
theorem dX12_kisses_147 : decode cX12_kisses 147 = .ok (.goto 11, 3) := by decide +kernel
theorem dX12_kisses_150 : decode cX12_kisses 150 = .ok (.iload_n 2, 1) := by decide +kernel
theorem dX12_kisses_151 : decode cX12_kisses 151 = .ok (.iconst 1, 1) := by decide +kernel
theorem dX12_kisses_152 : decode cX12_kisses 152 = .ok (.iload 6, 2) := by decide +kernel
theorem dX12_kisses_154 : decode cX12_kisses 154 = .ok (.ishl, 1) := by decide +kernel
theorem dX12_kisses_155 : decode cX12_kisses 155 = .ok (.iconst (-1), 1) := by decide +kernel
theorem dX12_kisses_156 : decode cX12_kisses 156 = .ok (.ixor, 1) := by decide +kernel
theorem dX12_kisses_157 : decode cX12_kisses 157 = .ok (.iand, 1) := by decide +kernel
theorem dX12_kisses_158 : decode cX12_kisses 158 = .ok (.istore_n 2, 1) := by decide +kernel
theorem dX12_kisses_159 : decode cX12_kisses 159 = .ok (.goto (-97), 3) := by decide +kernel
theorem dX12_kisses_162 : decode cX12_kisses 162 = .ok (.iload_n 3, 1) := by decide +kernel
theorem dX12_kisses_163 : decode cX12_kisses 163 = .ok (.ireturn, 1) := by decide +kernel
theorem dX12_shares_0 : decode cX12_shares 0 = .ok (.aload_n 0, 1) := by decide +kernel
theorem dX12_shares_1 : decode cX12_shares 1 = .ok (.iconst 0, 1) := by decide +kernel
theorem dX12_shares_2 : decode cX12_shares 2 = .ok (.putfield 3, 3) := by decide +kernel
theorem dX12_shares_5 : decode cX12_shares 5 = .ok (.aload_n 0, 1) := by decide +kernel
theorem dX12_shares_6 : decode cX12_shares 6 = .ok (.aload_n 0, 1) := by decide +kernel
theorem dX12_shares_7 : decode cX12_shares 7 = .ok (.iload_n 1, 1) := by decide +kernel
theorem dX12_shares_8 : decode cX12_shares 8 = .ok (.invokevirtual 301, 3) := by decide +kernel
theorem dX12_shares_11 : decode cX12_shares 11 = .ok (.iconst 1, 1) := by decide +kernel
theorem dX12_shares_12 : decode cX12_shares 12 = .ok (.invokevirtual 269, 3) := by decide +kernel
theorem dX12_shares_15 : decode cX12_shares 15 = .ok (.ifCond .ne 27, 3) := by decide +kernel
theorem dX12_shares_18 : decode cX12_shares 18 = .ok (.aload_n 0, 1) := by decide +kernel
theorem dX12_shares_19 : decode cX12_shares 19 = .ok (.iload_n 2, 1) := by decide +kernel
theorem dX12_shares_20 : decode cX12_shares 20 = .ok (.iconst 0, 1) := by decide +kernel
theorem dX12_shares_21 : decode cX12_shares 21 = .ok (.sipush 999, 3) := by decide +kernel
theorem dX12_shares_24 : decode cX12_shares 24 = .ok (.invokestatic 84, 3) := by decide +kernel
theorem dX12_shares_27 : decode cX12_shares 27 = .ok (.ifCond .ne 7, 3) := by decide +kernel
theorem dX12_shares_30 : decode cX12_shares 30 = .ok (.iconst 1, 1) := by decide +kernel
theorem dX12_shares_31 : decode cX12_shares 31 = .ok (.goto 4, 3) := by decide +kernel
theorem dX12_shares_34 : decode cX12_shares 34 = .ok (.iconst 0, 1) := by decide +kernel
theorem dX12_shares_35 : decode cX12_shares 35 = .ok (.iconst 2, 1) := by decide +kernel
theorem dX12_shares_36 : decode cX12_shares 36 = .ok (.invokevirtual 269, 3) := by decide +kernel
theorem dX12_shares_39 : decode cX12_shares 39 = .ok (.ifCond .eq 5, 3) := by decide +kernel
theorem dX12_shares_42 : decode cX12_shares 42 = .ok (.iconst 0, 1) := by decide +kernel
theorem dX12_shares_43 : decode cX12_shares 43 = .ok (.ireturn, 1) := by decide +kernel
theorem dX12_shares_44 : decode cX12_shares 44 = .ok (.iconst 0, 1) := by decide +kernel
theorem dX12_shares_45 : decode cX12_shares 45 = .ok (.istore_n 3, 1) := by decide +kernel
theorem dX12_shares_46 : decode cX12_shares 46 = .ok (.iload_n 3, 1) := by decide +kernel
theorem dX12_shares_47 : decode cX12_shares 47 = .ok (.bipush 6, 2) := by decide +kernel
theorem dX12_shares_49 : decode cX12_shares 49 = .ok (.if_icmp .ge 16, 3) := by decide +kernel
theorem dX12_shares_52 : decode cX12_shares 52 = .ok (.aload_n 0, 1) := by decide +kernel
theorem dX12_shares_53 : decode cX12_shares 53 = .ok (.getfield 45, 3) := by decide +kernel
theorem dX12_shares_56 : decode cX12_shares 56 = .ok (.iload_n 3, 1) := by decide +kernel
theorem dX12_shares_57 : decode cX12_shares 57 = .ok (.iconst 0, 1) := by decide +kernel
theorem dX12_shares_58 : decode cX12_shares 58 = .ok (.iastore, 1) := by decide +kernel
theorem dX12_shares_59 : decode cX12_shares 59 = .ok (.iinc 3 1, 3) := by decide +kernel
theorem dX12_shares_62 : decode cX12_shares 62 = .ok (.goto (-16), 3) := by decide +kernel
theorem dX12_shares_65 : decode cX12_shares 65 = .ok (.iconst 0, 1) := by decide +kernel
theorem dX12_shares_66 : decode cX12_shares 66 = .ok (.istore_n 3, 1) := by decide +kernel
theorem dX12_shares_67 : decode cX12_shares 67 = .ok (.iload_n 3, 1) := by decide +kernel
theorem dX12_shares_68 : decode cX12_shares 68 = .ok (.iload_n 2, 1) := by decide +kernel
theorem dX12_shares_69 : decode cX12_shares 69 = .ok (.if_icmp .ge 91, 3) := by decide +kernel
theorem dX12_shares_72 : decode cX12_shares 72 = .ok (.iconst (-1), 1) := by decide +kernel
theorem dX12_shares_73 : decode cX12_shares 73 = .ok (.istore 4, 2) := by decide +kernel
theorem dX12_shares_75 : decode cX12_shares 75 = .ok (.iconst 0, 1) := by decide +kernel
theorem dX12_shares_76 : decode cX12_shares 76 = .ok (.istore 5, 2) := by decide +kernel
theorem dX12_shares_78 : decode cX12_shares 78 = .ok (.iload 5, 2) := by decide +kernel
theorem dX12_shares_80 : decode cX12_shares 80 = .ok (.aload_n 0, 1) := by decide +kernel
theorem dX12_shares_81 : decode cX12_shares 81 = .ok (.invokevirtual 59, 3) := by decide +kernel
theorem dX12_shares_84 : decode cX12_shares 84 = .ok (.if_icmp .ge 53, 3) := by decide +kernel
theorem dX12_shares_87 : decode cX12_shares 87 = .ok (.aload_n 0, 1) := by decide +kernel
theorem dX12_shares_88 : decode cX12_shares 88 = .ok (.getfield 45, 3) := by decide +kernel
theorem dX12_shares_91 : decode cX12_shares 91 = .ok (.iload 5, 2) := by decide +kernel
theorem dX12_shares_93 : decode cX12_shares 93 = .ok (.iaload, 1) := by decide +kernel
theorem dX12_shares_94 : decode cX12_shares 94 = .ok (.aload_n 0, 1) := by decide +kernel
theorem dX12_shares_95 : decode cX12_shares 95 = .ok (.iload 5, 2) := by decide +kernel
theorem dX12_shares_97 : decode cX12_shares 97 = .ok (.iconst 1, 1) := by decide +kernel
theorem dX12_shares_98 : decode cX12_shares 98 = .ok (.invokevirtual 272, 3) := by decide +kernel
theorem dX12_shares_101 : decode cX12_shares 101 = .ok (.if_icmp .ge 30, 3) := by decide +kernel
theorem dX12_shares_104 : decode cX12_shares 104 = .ok (.iload 4, 2) := by decide +kernel
theorem dX12_shares_106 : decode cX12_shares 106 = .ok (.iconst (-1), 1) := by decide +kernel
theorem dX12_shares_107 : decode cX12_shares 107 = .ok (.if_icmp .eq 20, 3) := by decide +kernel
theorem dX12_shares_110 : decode cX12_shares 110 = .ok (.aload_n 0, 1) := by decide +kernel
theorem dX12_shares_111 : decode cX12_shares 111 = .ok (.getfield 45, 3) := by decide +kernel
theorem dX12_shares_114 : decode cX12_shares 114 = .ok (.iload 5, 2) := by decide +kernel
theorem dX12_shares_116 : decode cX12_shares 116 = .ok (.iaload, 1) := by decide +kernel
theorem dX12_shares_117 : decode cX12_shares 117 = .ok (.aload_n 0, 1) := by decide +kernel
theorem dX12_shares_118 : decode cX12_shares 118 = .ok (.getfield 45, 3) := by decide +kernel
theorem dX12_shares_121 : decode cX12_shares 121 = .ok (.iload 4, 2) := by decide +kernel
theorem dX12_shares_123 : decode cX12_shares 123 = .ok (.iaload, 1) := by decide +kernel
theorem dX12_shares_124 : decode cX12_shares 124 = .ok (.if_icmp .ge 7, 3) := by decide +kernel
theorem dX12_shares_127 : decode cX12_shares 127 = .ok (.iload 5, 2) := by decide +kernel
theorem dX12_shares_129 : decode cX12_shares 129 = .ok (.istore 4, 2) := by decide +kernel
theorem dX12_shares_131 : decode cX12_shares 131 = .ok (.iinc 5 1, 3) := by decide +kernel
theorem dX12_shares_134 : decode cX12_shares 134 = .ok (.goto (-56), 3) := by decide +kernel
theorem dX12_shares_137 : decode cX12_shares 137 = .ok (.iload 4, 2) := by decide +kernel
theorem dX12_shares_139 : decode cX12_shares 139 = .ok (.iconst (-1), 1) := by decide +kernel
theorem dX12_shares_140 : decode cX12_shares 140 = .ok (.if_icmp .eq 14, 3) := by decide +kernel
theorem dX12_shares_143 : decode cX12_shares 143 = .ok (.aload_n 0, 1) := by decide +kernel
theorem dX12_shares_144 : decode cX12_shares 144 = .ok (.getfield 45, 3) := by decide +kernel
theorem dX12_shares_147 : decode cX12_shares 147 = .ok (.iload 4, 2) := by decide +kernel
theorem dX12_shares_149 : decode cX12_shares 149 = .ok (.dup2, 1) := by decide +kernel
theorem dX12_shares_150 : decode cX12_shares 150 = .ok (.iaload, 1) := by decide +kernel
theorem dX12_shares_151 : decode cX12_shares 151 = .ok (.iconst 1, 1) := by decide +kernel
theorem dX12_shares_152 : decode cX12_shares 152 = .ok (.iadd, 1) := by decide +kernel
theorem dX12_shares_153 : decode cX12_shares 153 = .ok (.iastore, 1) := by decide +kernel
theorem dX12_shares_154 : decode cX12_shares 154 = .ok (.iinc 3 1, 3) := by decide +kernel
theorem dX12_shares_157 : decode cX12_shares 157 = .ok (.goto (-90), 3) := by decide +kernel
theorem dX12_shares_160 : decode cX12_shares 160 = .ok (.aload_n 0, 1) := by decide +kernel
theorem dX12_shares_161 : decode cX12_shares 161 = .ok (.getfield 45, 3) := by decide +kernel
theorem dX12_shares_164 : decode cX12_shares 164 = .ok (.iload_n 1, 1) := by decide +kernel
theorem dX12_shares_165 : decode cX12_shares 165 = .ok (.iaload, 1) := by decide +kernel
theorem dX12_shares_166 : decode cX12_shares 166 = .ok (.ireturn, 1) := by decide +kernel
theorem dX12_worthTo_0 : decode cX12_worthTo 0 = .ok (.iload_n 2, 1) := by decide +kernel
theorem dX12_worthTo_1 : decode cX12_worthTo 1 = .ok (.iconst 2, 1) := by decide +kernel
theorem dX12_worthTo_2 : decode cX12_worthTo 2 = .ok (.iconst 0, 1) := by decide +kernel
theorem dX12_worthTo_3 : decode cX12_worthTo 3 = .ok (.iload_n 2, 1) := by decide +kernel
theorem dX12_worthTo_4 : decode cX12_worthTo 4 = .ok (.iconst 3, 1) := by decide +kernel
theorem dX12_worthTo_5 : decode cX12_worthTo 5 = .ok (.aload_n 0, 1) := by decide +kernel
theorem dX12_worthTo_6 : decode cX12_worthTo 6 = .ok (.iload_n 1, 1) := by decide +kernel
theorem dX12_worthTo_7 : decode cX12_worthTo 7 = .ok (.iconst 1, 1) := by decide +kernel
theorem dX12_worthTo_8 : decode cX12_worthTo 8 = .ok (.invokevirtual 272, 3) := by decide +kernel
theorem dX12_worthTo_11 : decode cX12_worthTo 11 = .ok (.imul, 1) := by decide +kernel
theorem dX12_worthTo_12 : decode cX12_worthTo 12 = .ok (.isub, 1) := by decide +kernel
theorem dX12_worthTo_13 : decode cX12_worthTo 13 = .ok (.invokestatic 310, 3) := by decide +kernel
theorem dX12_worthTo_16 : decode cX12_worthTo 16 = .ok (.imul, 1) := by decide +kernel
theorem dX12_worthTo_17 : decode cX12_worthTo 17 = .ok (.isub, 1) := by decide +kernel
theorem dX12_worthTo_18 : decode cX12_worthTo 18 = .ok (.ireturn, 1) := by decide +kernel
theorem dX12_swap_0 : decode cX12_swap 0 = .ok (.aload_n 0, 1) := by decide +kernel
theorem dX12_swap_1 : decode cX12_swap 1 = .ok (.iconst 0, 1) := by decide +kernel
theorem dX12_swap_2 : decode cX12_swap 2 = .ok (.putfield 3, 3) := by decide +kernel
theorem dX12_swap_5 : decode cX12_swap 5 = .ok (.aload_n 0, 1) := by decide +kernel
theorem dX12_swap_6 : decode cX12_swap 6 = .ok (.aload_n 0, 1) := by decide +kernel
theorem dX12_swap_7 : decode cX12_swap 7 = .ok (.iload_n 1, 1) := by decide +kernel
theorem dX12_swap_8 : decode cX12_swap 8 = .ok (.invokevirtual 301, 3) := by decide +kernel
theorem dX12_swap_11 : decode cX12_swap 11 = .ok (.ifCond .ne 11, 3) := by decide +kernel
theorem dX12_swap_14 : decode cX12_swap 14 = .ok (.aload_n 0, 1) := by decide +kernel
theorem dX12_swap_15 : decode cX12_swap 15 = .ok (.iload_n 2, 1) := by decide +kernel
theorem dX12_swap_16 : decode cX12_swap 16 = .ok (.invokevirtual 301, 3) := by decide +kernel
theorem dX12_swap_19 : decode cX12_swap 19 = .ok (.ifCond .eq 7, 3) := by decide +kernel
theorem dX12_swap_22 : decode cX12_swap 22 = .ok (.iconst 1, 1) := by decide +kernel
theorem dX12_swap_23 : decode cX12_swap 23 = .ok (.goto 4, 3) := by decide +kernel
theorem dX12_swap_26 : decode cX12_swap 26 = .ok (.iconst 0, 1) := by decide +kernel
theorem dX12_swap_27 : decode cX12_swap 27 = .ok (.iconst 1, 1) := by decide +kernel
theorem dX12_swap_28 : decode cX12_swap 28 = .ok (.invokevirtual 269, 3) := by decide +kernel
theorem dX12_swap_31 : decode cX12_swap 31 = .ok (.ifCond .ne 21, 3) := by decide +kernel
theorem dX12_swap_34 : decode cX12_swap 34 = .ok (.aload_n 0, 1) := by decide +kernel
theorem dX12_swap_35 : decode cX12_swap 35 = .ok (.iload_n 1, 1) := by decide +kernel
theorem dX12_swap_36 : decode cX12_swap 36 = .ok (.iload_n 2, 1) := by decide +kernel
theorem dX12_swap_37 : decode cX12_swap 37 = .ok (.if_icmp .ne 7, 3) := by decide +kernel
theorem dX12_swap_40 : decode cX12_swap 40 = .ok (.iconst 1, 1) := by decide +kernel
theorem dX12_swap_41 : decode cX12_swap 41 = .ok (.goto 4, 3) := by decide +kernel
theorem dX12_swap_44 : decode cX12_swap 44 = .ok (.iconst 0, 1) := by decide +kernel
theorem dX12_swap_45 : decode cX12_swap 45 = .ok (.iconst 2, 1) := by decide +kernel
theorem dX12_swap_46 : decode cX12_swap 46 = .ok (.invokevirtual 269, 3) := by decide +kernel
theorem dX12_swap_49 : decode cX12_swap 49 = .ok (.ifCond .eq 5, 3) := by decide +kernel
theorem dX12_swap_52 : decode cX12_swap 52 = .ok (.iconst 0, 1) := by decide +kernel
theorem dX12_swap_53 : decode cX12_swap 53 = .ok (.ireturn, 1) := by decide +kernel
theorem dX12_swap_54 : decode cX12_swap 54 = .ok (.aload_n 0, 1) := by decide +kernel
theorem dX12_swap_55 : decode cX12_swap 55 = .ok (.iload_n 1, 1) := by decide +kernel
theorem dX12_swap_56 : decode cX12_swap 56 = .ok (.iconst 2, 1) := by decide +kernel
theorem dX12_swap_57 : decode cX12_swap 57 = .ok (.invokevirtual 272, 3) := by decide +kernel
theorem dX12_swap_60 : decode cX12_swap 60 = .ok (.istore_n 3, 1) := by decide +kernel
theorem dX12_swap_61 : decode cX12_swap 61 = .ok (.aload_n 0, 1) := by decide +kernel
theorem dX12_swap_62 : decode cX12_swap 62 = .ok (.iload_n 2, 1) := by decide +kernel
theorem dX12_swap_63 : decode cX12_swap 63 = .ok (.iconst 2, 1) := by decide +kernel
theorem dX12_swap_64 : decode cX12_swap 64 = .ok (.invokevirtual 272, 3) := by decide +kernel
theorem dX12_swap_67 : decode cX12_swap 67 = .ok (.istore 4, 2) := by decide +kernel
theorem dX12_swap_69 : decode cX12_swap 69 = .ok (.aload_n 0, 1) := by decide +kernel
theorem dX12_swap_70 : decode cX12_swap 70 = .ok (.iload_n 1, 1) := by decide +kernel
theorem dX12_swap_71 : decode cX12_swap 71 = .ok (.iload 4, 2) := by decide +kernel
theorem dX12_swap_73 : decode cX12_swap 73 = .ok (.invokevirtual 432, 3) := by decide +kernel
theorem dX12_swap_76 : decode cX12_swap 76 = .ok (.aload_n 0, 1) := by decide +kernel
theorem dX12_swap_77 : decode cX12_swap 77 = .ok (.iload_n 1, 1) := by decide +kernel
theorem dX12_swap_78 : decode cX12_swap 78 = .ok (.iload_n 3, 1) := by decide +kernel
theorem dX12_swap_79 : decode cX12_swap 79 = .ok (.invokevirtual 432, 3) := by decide +kernel
theorem dX12_swap_82 : decode cX12_swap 82 = .ok (.if_icmp .le 23, 3) := by decide +kernel
theorem dX12_swap_85 : decode cX12_swap 85 = .ok (.aload_n 0, 1) := by decide +kernel
theorem dX12_swap_86 : decode cX12_swap 86 = .ok (.iload_n 2, 1) := by decide +kernel
theorem dX12_swap_87 : decode cX12_swap 87 = .ok (.iload_n 3, 1) := by decide +kernel
theorem dX12_swap_88 : decode cX12_swap 88 = .ok (.invokevirtual 432, 3) := by decide +kernel
theorem dX12_swap_91 : decode cX12_swap 91 = .ok (.aload_n 0, 1) := by decide +kernel
theorem dX12_swap_92 : decode cX12_swap 92 = .ok (.iload_n 2, 1) := by decide +kernel
theorem dX12_swap_93 : decode cX12_swap 93 = .ok (.iload 4, 2) := by decide +kernel
theorem dX12_swap_95 : decode cX12_swap 95 = .ok (.invokevirtual 432, 3) := by decide +kernel
theorem dX12_swap_98 : decode cX12_swap 98 = .ok (.if_icmp .le 7, 3) := by decide +kernel
theorem dX12_swap_101 : decode cX12_swap 101 = .ok (.iconst 1, 1) := by decide +kernel
theorem dX12_swap_102 : decode cX12_swap 102 = .ok (.goto 4, 3) := by decide +kernel
theorem dX12_swap_105 : decode cX12_swap 105 = .ok (.iconst 0, 1) := by decide +kernel
theorem dX12_swap_106 : decode cX12_swap 106 = .ok (.ireturn, 1) := by decide +kernel
theorem dX12_fromHas_0 : decode cX12_fromHas 0 = .ok (.iload_n 2, 1) := by decide +kernel
theorem dX12_fromHas_1 : decode cX12_fromHas 1 = .ok (.ifCond .ne 18, 3) := by decide +kernel
theorem dX12_fromHas_4 : decode cX12_fromHas 4 = .ok (.iload_n 3, 1) := by decide +kernel
theorem dX12_fromHas_5 : decode cX12_fromHas 5 = .ok (.ifCond .ne 12, 3) := by decide +kernel
theorem dX12_fromHas_8 : decode cX12_fromHas 8 = .ok (.aload_n 0, 1) := by decide +kernel
theorem dX12_fromHas_9 : decode cX12_fromHas 9 = .ok (.iload_n 1, 1) := by decide +kernel
theorem dX12_fromHas_10 : decode cX12_fromHas 10 = .ok (.iconst 0, 1) := by decide +kernel
theorem dX12_fromHas_11 : decode cX12_fromHas 11 = .ok (.invokevirtual 275, 3) := by decide +kernel
theorem dX12_fromHas_14 : decode cX12_fromHas 14 = .ok (.goto 4, 3) := by decide +kernel
theorem dX12_fromHas_17 : decode cX12_fromHas 17 = .ok (.iconst (-1), 1) := by decide +kernel
theorem dX12_fromHas_18 : decode cX12_fromHas 18 = .ok (.ireturn, 1) := by decide +kernel
theorem dX12_fromHas_19 : decode cX12_fromHas 19 = .ok (.iload_n 3, 1) := by decide +kernel
theorem dX12_fromHas_20 : decode cX12_fromHas 20 = .ok (.ifCond .ne 18, 3) := by decide +kernel
theorem dX12_fromHas_23 : decode cX12_fromHas 23 = .ok (.aload_n 0, 1) := by decide +kernel
theorem dX12_fromHas_24 : decode cX12_fromHas 24 = .ok (.aload_n 0, 1) := by decide +kernel
theorem dX12_fromHas_25 : decode cX12_fromHas 25 = .ok (.iload_n 1, 1) := by decide +kernel
theorem dX12_fromHas_26 : decode cX12_fromHas 26 = .ok (.iconst 0, 1) := by decide +kernel
theorem dX12_fromHas_27 : decode cX12_fromHas 27 = .ok (.invokevirtual 70, 3) := by decide +kernel
theorem dX12_fromHas_30 : decode cX12_fromHas 30 = .ok (.iconst 0, 1) := by decide +kernel
theorem dX12_fromHas_31 : decode cX12_fromHas 31 = .ok (.invokevirtual 272, 3) := by decide +kernel
theorem dX12_fromHas_34 : decode cX12_fromHas 34 = .ok (.ineg, 1) := by decide +kernel
theorem dX12_fromHas_35 : decode cX12_fromHas 35 = .ok (.goto 11, 3) := by decide +kernel
theorem dX12_fromHas_38 : decode cX12_fromHas 38 = .ok (.aload_n 0, 1) := by decide +kernel
theorem dX12_fromHas_39 : decode cX12_fromHas 39 = .ok (.iload_n 1, 1) := by decide +kernel
theorem dX12_fromHas_40 : decode cX12_fromHas 40 = .ok (.iconst 1, 1) := by decide +kernel
theorem dX12_fromHas_41 : decode cX12_fromHas 41 = .ok (.invokevirtual 275, 3) := by decide +kernel
theorem dX12_fromHas_44 : decode cX12_fromHas 44 = .ok (.iconst 2, 1) := by decide +kernel
theorem dX12_fromHas_45 : decode cX12_fromHas 45 = .ok (.idiv, 1) := by decide +kernel
theorem dX12_fromHas_46 : decode cX12_fromHas 46 = .ok (.ireturn, 1) := by decide +kernel
theorem dX12_toHas_0 : decode cX12_toHas 0 = .ok (.iload_n 2, 1) := by decide +kernel
theorem dX12_toHas_1 : decode cX12_toHas 1 = .ok (.ifCond .ne 14, 3) := by decide +kernel
theorem dX12_toHas_4 : decode cX12_toHas 4 = .ok (.iload_n 3, 1) := by decide +kernel
theorem dX12_toHas_5 : decode cX12_toHas 5 = .ok (.ifCond .ne 7, 3) := by decide +kernel
theorem dX12_toHas_8 : decode cX12_toHas 8 = .ok (.iconst 2, 1) := by decide +kernel
theorem dX12_toHas_9 : decode cX12_toHas 9 = .ok (.goto 5, 3) := by decide +kernel
theorem dX12_toHas_12 : decode cX12_toHas 12 = .ok (.bipush (-3), 2) := by decide +kernel
theorem dX12_toHas_14 : decode cX12_toHas 14 = .ok (.ireturn, 1) := by decide +kernel
theorem dX12_toHas_15 : decode cX12_toHas 15 = .ok (.iload_n 3, 1) := by decide +kernel
theorem dX12_toHas_16 : decode cX12_toHas 16 = .ok (.ifCond .ne 7, 3) := by decide +kernel
theorem dX12_toHas_19 : decode cX12_toHas 19 = .ok (.iconst 4, 1) := by decide +kernel
theorem dX12_toHas_20 : decode cX12_toHas 20 = .ok (.goto 11, 3) := by decide +kernel
theorem dX12_toHas_23 : decode cX12_toHas 23 = .ok (.aload_n 0, 1) := by decide +kernel
theorem dX12_toHas_24 : decode cX12_toHas 24 = .ok (.iload_n 1, 1) := by decide +kernel
theorem dX12_toHas_25 : decode cX12_toHas 25 = .ok (.iconst 1, 1) := by decide +kernel
theorem dX12_toHas_26 : decode cX12_toHas 26 = .ok (.invokevirtual 275, 3) := by decide +kernel
theorem dX12_toHas_29 : decode cX12_toHas 29 = .ok (.iconst 2, 1) := by decide +kernel
theorem dX12_toHas_30 : decode cX12_toHas 30 = .ok (.idiv, 1) := by decide +kernel
theorem dX12_toHas_31 : decode cX12_toHas 31 = .ok (.ireturn, 1) := by decide +kernel
theorem dX12_rests_0 : decode cX12_rests 0 = .ok (.aload_n 0, 1) := by decide +kernel
theorem dX12_rests_1 : decode cX12_rests 1 = .ok (.iconst 0, 1) := by decide +kernel
theorem dX12_rests_2 : decode cX12_rests 2 = .ok (.putfield 3, 3) := by decide +kernel
theorem dX12_rests_5 : decode cX12_rests 5 = .ok (.aload_n 0, 1) := by decide +kernel
theorem dX12_rests_6 : decode cX12_rests 6 = .ok (.aload_n 0, 1) := by decide +kernel
theorem dX12_rests_7 : decode cX12_rests 7 = .ok (.iload_n 1, 1) := by decide +kernel
theorem dX12_rests_8 : decode cX12_rests 8 = .ok (.invokevirtual 315, 3) := by decide +kernel
theorem dX12_rests_11 : decode cX12_rests 11 = .ok (.iconst 1, 1) := by decide +kernel
theorem dX12_rests_12 : decode cX12_rests 12 = .ok (.invokevirtual 269, 3) := by decide +kernel
theorem dX12_rests_15 : decode cX12_rests 15 = .ok (.ifCond .eq 5, 3) := by decide +kernel
theorem dX12_rests_18 : decode cX12_rests 18 = .ok (.iconst 0, 1) := by decide +kernel
theorem dX12_rests_19 : decode cX12_rests 19 = .ok (.ireturn, 1) := by decide +kernel
theorem dX12_rests_20 : decode cX12_rests 20 = .ok (.aload_n 0, 1) := by decide +kernel
theorem dX12_rests_21 : decode cX12_rests 21 = .ok (.iload_n 1, 1) := by decide +kernel
theorem dX12_rests_22 : decode cX12_rests 22 = .ok (.invokevirtual 76, 3) := by decide +kernel
theorem dX12_rests_25 : decode cX12_rests 25 = .ok (.ifCond .eq 5, 3) := by decide +kernel
theorem dX12_rests_28 : decode cX12_rests 28 = .ok (.iconst (-1), 1) := by decide +kernel
theorem dX12_rests_29 : decode cX12_rests 29 = .ok (.ireturn, 1) := by decide +kernel
theorem dX12_rests_30 : decode cX12_rests 30 = .ok (.iconst 0, 1) := by decide +kernel
theorem dX12_rests_31 : decode cX12_rests 31 = .ok (.istore_n 2, 1) := by decide +kernel
theorem dX12_rests_32 : decode cX12_rests 32 = .ok (.iconst 0, 1) := by decide +kernel
theorem dX12_rests_33 : decode cX12_rests 33 = .ok (.istore_n 3, 1) := by decide +kernel
theorem dX12_rests_34 : decode cX12_rests 34 = .ok (.iload_n 3, 1) := by decide +kernel
theorem dX12_rests_35 : decode cX12_rests 35 = .ok (.iconst 2, 1) := by decide +kernel
theorem dX12_rests_36 : decode cX12_rests 36 = .ok (.if_icmp .ge 81, 3) := by decide +kernel
theorem dX12_rests_39 : decode cX12_rests 39 = .ok (.iconst 0, 1) := by decide +kernel
theorem dX12_rests_40 : decode cX12_rests 40 = .ok (.istore 4, 2) := by decide +kernel
theorem dX12_rests_42 : decode cX12_rests 42 = .ok (.iload 4, 2) := by decide +kernel
theorem dX12_rests_44 : decode cX12_rests 44 = .ok (.iconst 2, 1) := by decide +kernel
theorem dX12_rests_45 : decode cX12_rests 45 = .ok (.if_icmp .ge 66, 3) := by decide +kernel
theorem dX12_rests_48 : decode cX12_rests 48 = .ok (.iload_n 2, 1) := by decide +kernel
theorem dX12_rests_49 : decode cX12_rests 49 = .ok (.aload_n 0, 1) := by decide +kernel
theorem dX12_rests_50 : decode cX12_rests 50 = .ok (.iload_n 1, 1) := by decide +kernel
theorem dX12_rests_51 : decode cX12_rests 51 = .ok (.iload_n 3, 1) := by decide +kernel
theorem dX12_rests_52 : decode cX12_rests 52 = .ok (.iload 4, 2) := by decide +kernel
theorem dX12_rests_54 : decode cX12_rests 54 = .ok (.invokevirtual 435, 3) := by decide +kernel
theorem dX12_rests_57 : decode cX12_rests 57 = .ok (.aload_n 0, 1) := by decide +kernel
theorem dX12_rests_58 : decode cX12_rests 58 = .ok (.iload_n 1, 1) := by decide +kernel
theorem dX12_rests_59 : decode cX12_rests 59 = .ok (.iconst 1, 1) := by decide +kernel
theorem dX12_rests_60 : decode cX12_rests 60 = .ok (.iload_n 3, 1) := by decide +kernel
theorem dX12_rests_61 : decode cX12_rests 61 = .ok (.isub, 1) := by decide +kernel
theorem dX12_rests_62 : decode cX12_rests 62 = .ok (.iload 4, 2) := by decide +kernel
theorem dX12_rests_64 : decode cX12_rests 64 = .ok (.invokevirtual 435, 3) := by decide +kernel
theorem dX12_rests_67 : decode cX12_rests 67 = .ok (.if_icmp .lt 35, 3) := by decide +kernel
theorem dX12_rests_70 : decode cX12_rests 70 = .ok (.aload_n 0, 1) := by decide +kernel
theorem dX12_rests_71 : decode cX12_rests 71 = .ok (.iload_n 1, 1) := by decide +kernel
theorem dX12_rests_72 : decode cX12_rests 72 = .ok (.iload_n 3, 1) := by decide +kernel
theorem dX12_rests_73 : decode cX12_rests 73 = .ok (.iload 4, 2) := by decide +kernel
theorem dX12_rests_75 : decode cX12_rests 75 = .ok (.invokevirtual 438, 3) := by decide +kernel
theorem dX12_rests_78 : decode cX12_rests 78 = .ok (.aload_n 0, 1) := by decide +kernel
theorem dX12_rests_79 : decode cX12_rests 79 = .ok (.iload_n 1, 1) := by decide +kernel
theorem dX12_rests_80 : decode cX12_rests 80 = .ok (.iload_n 3, 1) := by decide +kernel
theorem dX12_rests_81 : decode cX12_rests 81 = .ok (.iconst 1, 1) := by decide +kernel
theorem dX12_rests_82 : decode cX12_rests 82 = .ok (.iload 4, 2) := by decide +kernel
theorem dX12_rests_84 : decode cX12_rests 84 = .ok (.isub, 1) := by decide +kernel
theorem dX12_rests_85 : decode cX12_rests 85 = .ok (.invokevirtual 438, 3) := by decide +kernel
theorem dX12_rests_88 : decode cX12_rests 88 = .ok (.if_icmp .lt 14, 3) := by decide +kernel
theorem dX12_rests_91 : decode cX12_rests 91 = .ok (.iconst 1, 1) := by decide +kernel
theorem dX12_rests_92 : decode cX12_rests 92 = .ok (.iconst 2, 1) := by decide +kernel
theorem dX12_rests_93 : decode cX12_rests 93 = .ok (.iload_n 3, 1) := by decide +kernel
theorem dX12_rests_94 : decode cX12_rests 94 = .ok (.imul, 1) := by decide +kernel
theorem dX12_rests_95 : decode cX12_rests 95 = .ok (.iload 4, 2) := by decide +kernel
theorem dX12_rests_97 : decode cX12_rests 97 = .ok (.iadd, 1) := by decide +kernel
theorem dX12_rests_98 : decode cX12_rests 98 = .ok (.ishl, 1) := by decide +kernel
theorem dX12_rests_99 : decode cX12_rests 99 = .ok (.goto 4, 3) := by decide +kernel
theorem dX12_rests_102 : decode cX12_rests 102 = .ok (.iconst 0, 1) := by decide +kernel
theorem dX12_rests_103 : decode cX12_rests 103 = .ok (.ior, 1) := by decide +kernel
theorem dX12_rests_104 : decode cX12_rests 104 = .ok (.istore_n 2, 1) := by decide +kernel
theorem dX12_rests_105 : decode cX12_rests 105 = .ok (.iinc 4 1, 3) := by decide +kernel
theorem dX12_rests_108 : decode cX12_rests 108 = .ok (.goto (-66), 3) := by decide +kernel
theorem dX12_rests_111 : decode cX12_rests 111 = .ok (.iinc 3 1, 3) := by decide +kernel
theorem dX12_rests_114 : decode cX12_rests 114 = .ok (.goto (-80), 3) := by decide +kernel
theorem dX12_rests_117 : decode cX12_rests 117 = .ok (.iload_n 2, 1) := by decide +kernel
theorem dX12_rests_118 : decode cX12_rests 118 = .ok (.ireturn, 1) := by decide +kernel
theorem dX12_odds_0 : decode cX12_odds 0 = .ok (.aload_n 0, 1) := by decide +kernel
theorem dX12_odds_1 : decode cX12_odds 1 = .ok (.iconst 0, 1) := by decide +kernel
theorem dX12_odds_2 : decode cX12_odds 2 = .ok (.putfield 3, 3) := by decide +kernel
theorem dX12_odds_5 : decode cX12_odds 5 = .ok (.aload_n 0, 1) := by decide +kernel
theorem dX12_odds_6 : decode cX12_odds 6 = .ok (.iload_n 1, 1) := by decide +kernel
theorem dX12_odds_7 : decode cX12_odds 7 = .ok (.iconst 0, 1) := by decide +kernel
theorem dX12_odds_8 : decode cX12_odds 8 = .ok (.bipush 6, 2) := by decide +kernel
theorem dX12_odds_10 : decode cX12_odds 10 = .ok (.invokestatic 84, 3) := by decide +kernel
theorem dX12_odds_13 : decode cX12_odds 13 = .ok (.ifCond .eq 13, 3) := by decide +kernel
theorem dX12_odds_16 : decode cX12_odds 16 = .ok (.iload_n 2, 1) := by decide +kernel
theorem dX12_odds_17 : decode cX12_odds 17 = .ok (.iconst 0, 1) := by decide +kernel
theorem dX12_odds_18 : decode cX12_odds 18 = .ok (.bipush 6, 2) := by decide +kernel
theorem dX12_odds_20 : decode cX12_odds 20 = .ok (.invokestatic 84, 3) := by decide +kernel
theorem dX12_odds_23 : decode cX12_odds 23 = .ok (.ifCond .ne 7, 3) := by decide +kernel
theorem dX12_odds_26 : decode cX12_odds 26 = .ok (.iconst 1, 1) := by decide +kernel
theorem dX12_odds_27 : decode cX12_odds 27 = .ok (.goto 4, 3) := by decide +kernel
theorem dX12_odds_30 : decode cX12_odds 30 = .ok (.iconst 0, 1) := by decide +kernel
theorem dX12_odds_31 : decode cX12_odds 31 = .ok (.iconst 1, 1) := by decide +kernel
theorem dX12_odds_32 : decode cX12_odds 32 = .ok (.invokevirtual 269, 3) := by decide +kernel
theorem dX12_odds_35 : decode cX12_odds 35 = .ok (.ifCond .eq 5, 3) := by decide +kernel
theorem dX12_odds_38 : decode cX12_odds 38 = .ok (.iconst 0, 1) := by decide +kernel
theorem dX12_odds_39 : decode cX12_odds 39 = .ok (.ireturn, 1) := by decide +kernel
theorem dX12_odds_40 : decode cX12_odds 40 = .ok (.lconst 1, 1) := by decide +kernel
theorem dX12_odds_41 : decode cX12_odds 41 = .ok (.lstore_n 3, 1) := by decide +kernel
theorem dX12_odds_42 : decode cX12_odds 42 = .ok (.iconst 0, 1) := by decide +kernel
theorem dX12_odds_43 : decode cX12_odds 43 = .ok (.istore 5, 2) := by decide +kernel
theorem dX12_odds_45 : decode cX12_odds 45 = .ok (.iload 5, 2) := by decide +kernel
theorem dX12_odds_47 : decode cX12_odds 47 = .ok (.bipush 6, 2) := by decide +kernel
theorem dX12_odds_49 : decode cX12_odds 49 = .ok (.if_icmp .gt 26, 3) := by decide +kernel
theorem dX12_odds_52 : decode cX12_odds 52 = .ok (.aload_n 0, 1) := by decide +kernel
theorem dX12_odds_53 : decode cX12_odds 53 = .ok (.getfield 48, 3) := by decide +kernel
theorem dX12_odds_56 : decode cX12_odds 56 = .ok (.iload 5, 2) := by decide +kernel
theorem dX12_odds_58 : decode cX12_odds 58 = .ok (.iload 5, 2) := by decide +kernel
theorem dX12_odds_60 : decode cX12_odds 60 = .ok (.ifCond .ne 7, 3) := by decide +kernel
theorem dX12_odds_63 : decode cX12_odds 63 = .ok (.lconst 1, 1) := by decide +kernel
theorem dX12_odds_64 : decode cX12_odds 64 = .ok (.goto 4, 3) := by decide +kernel
theorem dX12_odds_67 : decode cX12_odds 67 = .ok (.lconst 0, 1) := by decide +kernel
theorem dX12_odds_68 : decode cX12_odds 68 = .ok (.lastore, 1) := by decide +kernel
theorem dX12_odds_69 : decode cX12_odds 69 = .ok (.iinc 5 1, 3) := by decide +kernel
theorem dX12_odds_72 : decode cX12_odds 72 = .ok (.goto (-27), 3) := by decide +kernel
theorem dX12_odds_75 : decode cX12_odds 75 = .ok (.iconst 0, 1) := by decide +kernel
theorem dX12_odds_76 : decode cX12_odds 76 = .ok (.istore 5, 2) := by decide +kernel
theorem dX12_odds_78 : decode cX12_odds 78 = .ok (.iload 5, 2) := by decide +kernel
theorem dX12_odds_80 : decode cX12_odds 80 = .ok (.iload_n 1, 1) := by decide +kernel
theorem dX12_odds_81 : decode cX12_odds 81 = .ok (.if_icmp .ge 84, 3) := by decide +kernel
theorem dX12_odds_84 : decode cX12_odds 84 = .ok (.bipush 6, 2) := by decide +kernel
theorem dX12_odds_86 : decode cX12_odds 86 = .ok (.istore 6, 2) := by decide +kernel
theorem dX12_odds_88 : decode cX12_odds 88 = .ok (.iload 6, 2) := by decide +kernel
theorem dX12_odds_90 : decode cX12_odds 90 = .ok (.ifCond .lt 63, 3) := by decide +kernel
theorem dX12_odds_93 : decode cX12_odds 93 = .ok (.aload_n 0, 1) := by decide +kernel
theorem dX12_odds_94 : decode cX12_odds 94 = .ok (.getfield 48, 3) := by decide +kernel
theorem dX12_odds_97 : decode cX12_odds 97 = .ok (.iload 6, 2) := by decide +kernel
theorem dX12_odds_99 : decode cX12_odds 99 = .ok (.aload_n 0, 1) := by decide +kernel
theorem dX12_odds_100 : decode cX12_odds 100 = .ok (.getfield 48, 3) := by decide +kernel
theorem dX12_odds_103 : decode cX12_odds 103 = .ok (.iload 6, 2) := by decide +kernel
theorem dX12_odds_105 : decode cX12_odds 105 = .ok (.laload, 1) := by decide +kernel
theorem dX12_odds_106 : decode cX12_odds 106 = .ok (.bipush 100, 2) := by decide +kernel
theorem dX12_odds_108 : decode cX12_odds 108 = .ok (.aload_n 0, 1) := by decide +kernel
theorem dX12_odds_109 : decode cX12_odds 109 = .ok (.getfield 13, 3) := by decide +kernel
theorem dX12_odds_112 : decode cX12_odds 112 = .ok (.bipush 7, 2) := by decide +kernel
theorem dX12_odds_114 : decode cX12_odds 114 = .ok (.iaload, 1) := by decide +kernel
theorem dX12_odds_115 : decode cX12_odds 115 = .ok (.isub, 1) := by decide +kernel
theorem dX12_odds_116 : decode cX12_odds 116 = .ok (.i2l, 1) := by decide +kernel
theorem dX12_odds_117 : decode cX12_odds 117 = .ok (.lmul, 1) := by decide +kernel
theorem dX12_odds_118 : decode cX12_odds 118 = .ok (.iload 6, 2) := by decide +kernel
theorem dX12_odds_120 : decode cX12_odds 120 = .ok (.ifCond .ne 7, 3) := by decide +kernel
theorem dX12_odds_123 : decode cX12_odds 123 = .ok (.lconst 0, 1) := by decide +kernel
theorem dX12_odds_124 : decode cX12_odds 124 = .ok (.goto 21, 3) := by decide +kernel
theorem dX12_odds_127 : decode cX12_odds 127 = .ok (.aload_n 0, 1) := by decide +kernel
theorem dX12_odds_128 : decode cX12_odds 128 = .ok (.getfield 48, 3) := by decide +kernel
theorem dX12_odds_131 : decode cX12_odds 131 = .ok (.iload 6, 2) := by decide +kernel
theorem dX12_odds_133 : decode cX12_odds 133 = .ok (.iconst 1, 1) := by decide +kernel
theorem dX12_odds_134 : decode cX12_odds 134 = .ok (.isub, 1) := by decide +kernel
theorem dX12_odds_135 : decode cX12_odds 135 = .ok (.laload, 1) := by decide +kernel
theorem dX12_odds_136 : decode cX12_odds 136 = .ok (.aload_n 0, 1) := by decide +kernel
theorem dX12_odds_137 : decode cX12_odds 137 = .ok (.getfield 13, 3) := by decide +kernel
theorem dX12_odds_140 : decode cX12_odds 140 = .ok (.bipush 7, 2) := by decide +kernel
theorem dX12_odds_142 : decode cX12_odds 142 = .ok (.iaload, 1) := by decide +kernel
theorem dX12_odds_143 : decode cX12_odds 143 = .ok (.i2l, 1) := by decide +kernel
theorem dX12_odds_144 : decode cX12_odds 144 = .ok (.lmul, 1) := by decide +kernel
theorem dX12_odds_145 : decode cX12_odds 145 = .ok (.ladd, 1) := by decide +kernel
theorem dX12_odds_146 : decode cX12_odds 146 = .ok (.lastore, 1) := by decide +kernel
theorem dX12_odds_147 : decode cX12_odds 147 = .ok (.iinc 6 (-1), 3) := by decide +kernel
theorem dX12_odds_150 : decode cX12_odds 150 = .ok (.goto (-62), 3) := by decide +kernel
theorem dX12_odds_153 : decode cX12_odds 153 = .ok (.lload_n 3, 1) := by decide +kernel
theorem dX12_odds_154 : decode cX12_odds 154 = .ok (.ldc2_w 441, 3) := by decide +kernel
theorem dX12_odds_157 : decode cX12_odds 157 = .ok (.lmul, 1) := by decide +kernel
theorem dX12_odds_158 : decode cX12_odds 158 = .ok (.lstore_n 3, 1) := by decide +kernel
theorem dX12_odds_159 : decode cX12_odds 159 = .ok (.iinc 5 1, 3) := by decide +kernel
theorem dX12_odds_162 : decode cX12_odds 162 = .ok (.goto (-84), 3) := by decide +kernel
theorem dX12_odds_165 : decode cX12_odds 165 = .ok (.lconst 0, 1) := by decide +kernel
theorem dX12_odds_166 : decode cX12_odds 166 = .ok (.lstore 5, 2) := by decide +kernel
theorem dX12_odds_168 : decode cX12_odds 168 = .ok (.iload_n 2, 1) := by decide +kernel
theorem dX12_odds_169 : decode cX12_odds 169 = .ok (.istore 7, 2) := by decide +kernel
theorem dX12_odds_171 : decode cX12_odds 171 = .ok (.iload 7, 2) := by decide +kernel
theorem dX12_odds_173 : decode cX12_odds 173 = .ok (.bipush 6, 2) := by decide +kernel
theorem dX12_odds_175 : decode cX12_odds 175 = .ok (.if_icmp .gt 21, 3) := by decide +kernel
theorem dX12_odds_178 : decode cX12_odds 178 = .ok (.lload 5, 2) := by decide +kernel
theorem dX12_odds_180 : decode cX12_odds 180 = .ok (.aload_n 0, 1) := by decide +kernel
theorem dX12_odds_181 : decode cX12_odds 181 = .ok (.getfield 48, 3) := by decide +kernel
theorem dX12_odds_184 : decode cX12_odds 184 = .ok (.iload 7, 2) := by decide +kernel
theorem dX12_odds_186 : decode cX12_odds 186 = .ok (.laload, 1) := by decide +kernel
theorem dX12_odds_187 : decode cX12_odds 187 = .ok (.ladd, 1) := by decide +kernel
theorem dX12_odds_188 : decode cX12_odds 188 = .ok (.lstore 5, 2) := by decide +kernel
theorem dX12_odds_190 : decode cX12_odds 190 = .ok (.iinc 7 1, 3) := by decide +kernel
theorem dX12_odds_193 : decode cX12_odds 193 = .ok (.goto (-22), 3) := by decide +kernel
theorem dX12_odds_196 : decode cX12_odds 196 = .ok (.ldc2_w 443, 3) := by decide +kernel
theorem dX12_odds_199 : decode cX12_odds 199 = .ok (.lload 5, 2) := by decide +kernel
theorem dX12_odds_201 : decode cX12_odds 201 = .ok (.lmul, 1) := by decide +kernel
theorem dX12_odds_202 : decode cX12_odds 202 = .ok (.lload_n 3, 1) := by decide +kernel
theorem dX12_odds_203 : decode cX12_odds 203 = .ok (.ldiv, 1) := by decide +kernel
theorem dX12_odds_204 : decode cX12_odds 204 = .ok (.l2i, 1) := by decide +kernel
theorem dX12_odds_205 : decode cX12_odds 205 = .ok (.ireturn, 1) := by decide +kernel
theorem dX12_oldest_0 : decode cX12_oldest 0 = .ok (.aload_n 0, 1) := by decide +kernel
theorem dX12_oldest_1 : decode cX12_oldest 1 = .ok (.iconst 0, 1) := by decide +kernel
theorem dX12_oldest_2 : decode cX12_oldest 2 = .ok (.putfield 3, 3) := by decide +kernel
theorem dX12_oldest_5 : decode cX12_oldest 5 = .ok (.iconst (-1), 1) := by decide +kernel
theorem dX12_oldest_6 : decode cX12_oldest 6 = .ok (.istore_n 1, 1) := by decide +kernel
theorem dX12_oldest_7 : decode cX12_oldest 7 = .ok (.iconst (-1), 1) := by decide +kernel
theorem dX12_oldest_8 : decode cX12_oldest 8 = .ok (.istore_n 2, 1) := by decide +kernel
theorem dX12_oldest_9 : decode cX12_oldest 9 = .ok (.iconst 0, 1) := by decide +kernel
theorem dX12_oldest_10 : decode cX12_oldest 10 = .ok (.istore_n 3, 1) := by decide +kernel
theorem dX12_oldest_11 : decode cX12_oldest 11 = .ok (.iload_n 3, 1) := by decide +kernel
theorem dX12_oldest_12 : decode cX12_oldest 12 = .ok (.aload_n 0, 1) := by decide +kernel
theorem dX12_oldest_13 : decode cX12_oldest 13 = .ok (.invokevirtual 73, 3) := by decide +kernel
theorem dX12_oldest_16 : decode cX12_oldest 16 = .ok (.if_icmp .ge 48, 3) := by decide +kernel
theorem dX12_oldest_19 : decode cX12_oldest 19 = .ok (.aload_n 0, 1) := by decide +kernel
theorem dX12_oldest_20 : decode cX12_oldest 20 = .ok (.iload_n 3, 1) := by decide +kernel
theorem dX12_oldest_21 : decode cX12_oldest 21 = .ok (.invokevirtual 76, 3) := by decide +kernel
theorem dX12_oldest_24 : decode cX12_oldest 24 = .ok (.ifCond .eq 7, 3) := by decide +kernel
theorem dX12_oldest_27 : decode cX12_oldest 27 = .ok (.iconst (-1), 1) := by decide +kernel
theorem dX12_oldest_28 : decode cX12_oldest 28 = .ok (.goto 9, 3) := by decide +kernel
theorem dX12_oldest_31 : decode cX12_oldest 31 = .ok (.aload_n 0, 1) := by decide +kernel
theorem dX12_oldest_32 : decode cX12_oldest 32 = .ok (.iload_n 3, 1) := by decide +kernel
theorem dX12_oldest_33 : decode cX12_oldest 33 = .ok (.iconst 3, 1) := by decide +kernel
theorem dX12_oldest_34 : decode cX12_oldest 34 = .ok (.invokevirtual 70, 3) := by decide +kernel
theorem dX12_oldest_37 : decode cX12_oldest 37 = .ok (.istore 4, 2) := by decide +kernel
theorem dX12_oldest_39 : decode cX12_oldest 39 = .ok (.iload 4, 2) := by decide +kernel
theorem dX12_oldest_41 : decode cX12_oldest 41 = .ok (.iload_n 2, 1) := by decide +kernel
theorem dX12_oldest_42 : decode cX12_oldest 42 = .ok (.if_icmp .le 7, 3) := by decide +kernel
theorem dX12_oldest_45 : decode cX12_oldest 45 = .ok (.iload_n 3, 1) := by decide +kernel
theorem dX12_oldest_46 : decode cX12_oldest 46 = .ok (.goto 4, 3) := by decide +kernel
theorem dX12_oldest_49 : decode cX12_oldest 49 = .ok (.iload_n 1, 1) := by decide +kernel
theorem dX12_oldest_50 : decode cX12_oldest 50 = .ok (.istore_n 1, 1) := by decide +kernel
theorem dX12_oldest_51 : decode cX12_oldest 51 = .ok (.iload_n 2, 1) := by decide +kernel
theorem dX12_oldest_52 : decode cX12_oldest 52 = .ok (.iload 4, 2) := by decide +kernel
theorem dX12_oldest_54 : decode cX12_oldest 54 = .ok (.invokestatic 310, 3) := by decide +kernel
theorem dX12_oldest_57 : decode cX12_oldest 57 = .ok (.istore_n 2, 1) := by decide +kernel
theorem dX12_oldest_58 : decode cX12_oldest 58 = .ok (.iinc 3 1, 3) := by decide +kernel
theorem dX12_oldest_61 : decode cX12_oldest 61 = .ok (.goto (-50), 3) := by decide +kernel
theorem dX12_oldest_64 : decode cX12_oldest 64 = .ok (.iload_n 1, 1) := by decide +kernel
theorem dX12_oldest_65 : decode cX12_oldest 65 = .ok (.ireturn, 1) := by decide +kernel
theorem dX12_blue_0 : decode cX12_blue 0 = .ok (.aload_n 0, 1) := by decide +kernel
theorem dX12_blue_1 : decode cX12_blue 1 = .ok (.iconst 0, 1) := by decide +kernel
theorem dX12_blue_2 : decode cX12_blue 2 = .ok (.putfield 3, 3) := by decide +kernel
theorem dX12_blue_5 : decode cX12_blue 5 = .ok (.iconst 0, 1) := by decide +kernel
theorem dX12_blue_6 : decode cX12_blue 6 = .ok (.istore_n 1, 1) := by decide +kernel
theorem dX12_blue_7 : decode cX12_blue 7 = .ok (.iconst 0, 1) := by decide +kernel
theorem dX12_blue_8 : decode cX12_blue 8 = .ok (.istore_n 2, 1) := by decide +kernel
theorem dX12_blue_9 : decode cX12_blue 9 = .ok (.iload_n 2, 1) := by decide +kernel
theorem dX12_blue_10 : decode cX12_blue 10 = .ok (.aload_n 0, 1) := by decide +kernel
theorem dX12_blue_11 : decode cX12_blue 11 = .ok (.invokevirtual 73, 3) := by decide +kernel
theorem dX12_blue_14 : decode cX12_blue 14 = .ok (.if_icmp .ge 38, 3) := by decide +kernel
theorem dX12_blue_17 : decode cX12_blue 17 = .ok (.iload_n 1, 1) := by decide +kernel
theorem dX12_blue_18 : decode cX12_blue 18 = .ok (.aload_n 0, 1) := by decide +kernel
theorem dX12_blue_19 : decode cX12_blue 19 = .ok (.iload_n 2, 1) := by decide +kernel
theorem dX12_blue_20 : decode cX12_blue 20 = .ok (.invokevirtual 76, 3) := by decide +kernel
theorem dX12_blue_23 : decode cX12_blue 23 = .ok (.ifCond .ne 20, 3) := by decide +kernel
theorem dX12_blue_26 : decode cX12_blue 26 = .ok (.aload_n 0, 1) := by decide +kernel
theorem dX12_blue_27 : decode cX12_blue 27 = .ok (.iload_n 2, 1) := by decide +kernel
theorem dX12_blue_28 : decode cX12_blue 28 = .ok (.iconst 4, 1) := by decide +kernel
theorem dX12_blue_29 : decode cX12_blue 29 = .ok (.invokevirtual 70, 3) := by decide +kernel
theorem dX12_blue_32 : decode cX12_blue 32 = .ok (.bipush 100, 2) := by decide +kernel
theorem dX12_blue_34 : decode cX12_blue 34 = .ok (.if_icmp .lt 9, 3) := by decide +kernel
theorem dX12_blue_37 : decode cX12_blue 37 = .ok (.iconst 1, 1) := by decide +kernel
theorem dX12_blue_38 : decode cX12_blue 38 = .ok (.iload_n 2, 1) := by decide +kernel
theorem dX12_blue_39 : decode cX12_blue 39 = .ok (.ishl, 1) := by decide +kernel
theorem dX12_blue_40 : decode cX12_blue 40 = .ok (.goto 4, 3) := by decide +kernel
theorem dX12_blue_43 : decode cX12_blue 43 = .ok (.iconst 0, 1) := by decide +kernel
theorem dX12_blue_44 : decode cX12_blue 44 = .ok (.ior, 1) := by decide +kernel
theorem dX12_blue_45 : decode cX12_blue 45 = .ok (.istore_n 1, 1) := by decide +kernel
theorem dX12_blue_46 : decode cX12_blue 46 = .ok (.iinc 2 1, 3) := by decide +kernel
theorem dX12_blue_49 : decode cX12_blue 49 = .ok (.goto (-40), 3) := by decide +kernel
theorem dX12_blue_52 : decode cX12_blue 52 = .ok (.iload_n 1, 1) := by decide +kernel
theorem dX12_blue_53 : decode cX12_blue 53 = .ok (.ireturn, 1) := by decide +kernel
theorem dX12_nursed_0 : decode cX12_nursed 0 = .ok (.aload_n 0, 1) := by decide +kernel
theorem dX12_nursed_1 : decode cX12_nursed 1 = .ok (.iconst 0, 1) := by decide +kernel
theorem dX12_nursed_2 : decode cX12_nursed 2 = .ok (.putfield 3, 3) := by decide +kernel
theorem dX12_nursed_5 : decode cX12_nursed 5 = .ok (.iconst 0, 1) := by decide +kernel
theorem dX12_nursed_6 : decode cX12_nursed 6 = .ok (.istore_n 1, 1) := by decide +kernel
theorem dX12_nursed_7 : decode cX12_nursed 7 = .ok (.iconst 0, 1) := by decide +kernel
theorem dX12_nursed_8 : decode cX12_nursed 8 = .ok (.istore_n 2, 1) := by decide +kernel
theorem dX12_nursed_9 : decode cX12_nursed 9 = .ok (.iload_n 2, 1) := by decide +kernel
theorem dX12_nursed_10 : decode cX12_nursed 10 = .ok (.aload_n 0, 1) := by decide +kernel
theorem dX12_nursed_11 : decode cX12_nursed 11 = .ok (.invokevirtual 73, 3) := by decide +kernel
theorem dX12_nursed_14 : decode cX12_nursed 14 = .ok (.if_icmp .ge 37, 3) := by decide +kernel
theorem dX12_nursed_17 : decode cX12_nursed 17 = .ok (.iload_n 1, 1) := by decide +kernel
theorem dX12_nursed_18 : decode cX12_nursed 18 = .ok (.aload_n 0, 1) := by decide +kernel
theorem dX12_nursed_19 : decode cX12_nursed 19 = .ok (.iload_n 2, 1) := by decide +kernel
theorem dX12_nursed_20 : decode cX12_nursed 20 = .ok (.invokevirtual 76, 3) := by decide +kernel
theorem dX12_nursed_23 : decode cX12_nursed 23 = .ok (.ifCond .ne 19, 3) := by decide +kernel
theorem dX12_nursed_26 : decode cX12_nursed 26 = .ok (.aload_n 0, 1) := by decide +kernel
theorem dX12_nursed_27 : decode cX12_nursed 27 = .ok (.iload_n 2, 1) := by decide +kernel
theorem dX12_nursed_28 : decode cX12_nursed 28 = .ok (.iconst 5, 1) := by decide +kernel
theorem dX12_nursed_29 : decode cX12_nursed 29 = .ok (.invokevirtual 70, 3) := by decide +kernel
theorem dX12_nursed_32 : decode cX12_nursed 32 = .ok (.iconst 1, 1) := by decide +kernel
theorem dX12_nursed_33 : decode cX12_nursed 33 = .ok (.if_icmp .ne 9, 3) := by decide +kernel
theorem dX12_nursed_36 : decode cX12_nursed 36 = .ok (.iconst 1, 1) := by decide +kernel
theorem dX12_nursed_37 : decode cX12_nursed 37 = .ok (.iload_n 2, 1) := by decide +kernel
theorem dX12_nursed_38 : decode cX12_nursed 38 = .ok (.ishl, 1) := by decide +kernel
theorem dX12_nursed_39 : decode cX12_nursed 39 = .ok (.goto 4, 3) := by decide +kernel
theorem dX12_nursed_42 : decode cX12_nursed 42 = .ok (.iconst 0, 1) := by decide +kernel
theorem dX12_nursed_43 : decode cX12_nursed 43 = .ok (.ior, 1) := by decide +kernel
theorem dX12_nursed_44 : decode cX12_nursed 44 = .ok (.istore_n 1, 1) := by decide +kernel
theorem dX12_nursed_45 : decode cX12_nursed 45 = .ok (.iinc 2 1, 3) := by decide +kernel
theorem dX12_nursed_48 : decode cX12_nursed 48 = .ok (.goto (-39), 3) := by decide +kernel
theorem dX12_nursed_51 : decode cX12_nursed 51 = .ok (.iload_n 1, 1) := by decide +kernel
theorem dX12_nursed_52 : decode cX12_nursed 52 = .ok (.ireturn, 1) := by decide +kernel
theorem dX12_mutual_0 : decode cX12_mutual 0 = .ok (.aload_n 0, 1) := by decide +kernel
theorem dX12_mutual_1 : decode cX12_mutual 1 = .ok (.iconst 0, 1) := by decide +kernel
theorem dX12_mutual_2 : decode cX12_mutual 2 = .ok (.putfield 3, 3) := by decide +kernel
theorem dX12_mutual_5 : decode cX12_mutual 5 = .ok (.iconst 0, 1) := by decide +kernel
theorem dX12_mutual_6 : decode cX12_mutual 6 = .ok (.istore_n 1, 1) := by decide +kernel
theorem dX12_mutual_7 : decode cX12_mutual 7 = .ok (.iconst 0, 1) := by decide +kernel
theorem dX12_mutual_8 : decode cX12_mutual 8 = .ok (.istore_n 2, 1) := by decide +kernel
theorem dX12_mutual_9 : decode cX12_mutual 9 = .ok (.iload_n 2, 1) := by decide +kernel
theorem dX12_mutual_10 : decode cX12_mutual 10 = .ok (.aload_n 0, 1) := by decide +kernel
theorem dX12_mutual_11 : decode cX12_mutual 11 = .ok (.invokevirtual 73, 3) := by decide +kernel
theorem dX12_mutual_14 : decode cX12_mutual 14 = .ok (.if_icmp .ge 35, 3) := by decide +kernel
theorem dX12_mutual_17 : decode cX12_mutual 17 = .ok (.iload_n 1, 1) := by decide +kernel
theorem dX12_mutual_18 : decode cX12_mutual 18 = .ok (.aload_n 0, 1) := by decide +kernel
theorem dX12_mutual_19 : decode cX12_mutual 19 = .ok (.iload_n 2, 1) := by decide +kernel
theorem dX12_mutual_20 : decode cX12_mutual 20 = .ok (.invokevirtual 76, 3) := by decide +kernel
theorem dX12_mutual_23 : decode cX12_mutual 23 = .ok (.ifCond .ne 17, 3) := by decide +kernel
theorem dX12_mutual_26 : decode cX12_mutual 26 = .ok (.aload_n 0, 1) := by decide +kernel
theorem dX12_mutual_27 : decode cX12_mutual 27 = .ok (.iload_n 2, 1) := by decide +kernel
theorem dX12_mutual_28 : decode cX12_mutual 28 = .ok (.invokevirtual 281, 3) := by decide +kernel
theorem dX12_mutual_31 : decode cX12_mutual 31 = .ok (.ifCond .eq 9, 3) := by decide +kernel
theorem dX12_mutual_34 : decode cX12_mutual 34 = .ok (.iconst 1, 1) := by decide +kernel
theorem dX12_mutual_35 : decode cX12_mutual 35 = .ok (.iload_n 2, 1) := by decide +kernel
theorem dX12_mutual_36 : decode cX12_mutual 36 = .ok (.ishl, 1) := by decide +kernel
theorem dX12_mutual_37 : decode cX12_mutual 37 = .ok (.goto 4, 3) := by decide +kernel
theorem dX12_mutual_40 : decode cX12_mutual 40 = .ok (.iconst 0, 1) := by decide +kernel
theorem dX12_mutual_41 : decode cX12_mutual 41 = .ok (.ior, 1) := by decide +kernel
theorem dX12_mutual_42 : decode cX12_mutual 42 = .ok (.istore_n 1, 1) := by decide +kernel
theorem dX12_mutual_43 : decode cX12_mutual 43 = .ok (.iinc 2 1, 3) := by decide +kernel
theorem dX12_mutual_46 : decode cX12_mutual 46 = .ok (.goto (-37), 3) := by decide +kernel
theorem dX12_mutual_49 : decode cX12_mutual 49 = .ok (.iload_n 1, 1) := by decide +kernel
theorem dX12_mutual_50 : decode cX12_mutual 50 = .ok (.ireturn, 1) := by decide +kernel
theorem dX12_proud_0 : decode cX12_proud 0 = .ok (.aload_n 0, 1) := by decide +kernel
theorem dX12_proud_1 : decode cX12_proud 1 = .ok (.iconst 0, 1) := by decide +kernel
theorem dX12_proud_2 : decode cX12_proud 2 = .ok (.putfield 3, 3) := by decide +kernel
theorem dX12_proud_5 : decode cX12_proud 5 = .ok (.iconst (-1), 1) := by decide +kernel
theorem dX12_proud_6 : decode cX12_proud 6 = .ok (.istore_n 1, 1) := by decide +kernel
theorem dX12_proud_7 : decode cX12_proud 7 = .ok (.iconst 0, 1) := by decide +kernel
theorem dX12_proud_8 : decode cX12_proud 8 = .ok (.istore_n 2, 1) := by decide +kernel
theorem dX12_proud_9 : decode cX12_proud 9 = .ok (.iload_n 2, 1) := by decide +kernel
theorem dX12_proud_10 : decode cX12_proud 10 = .ok (.aload_n 0, 1) := by decide +kernel
theorem dX12_proud_11 : decode cX12_proud 11 = .ok (.invokevirtual 59, 3) := by decide +kernel
theorem dX12_proud_14 : decode cX12_proud 14 = .ok (.if_icmp .ge 31, 3) := by decide +kernel
theorem dX12_proud_17 : decode cX12_proud 17 = .ok (.iload_n 1, 1) := by decide +kernel
theorem dX12_proud_18 : decode cX12_proud 18 = .ok (.iconst (-1), 1) := by decide +kernel
theorem dX12_proud_19 : decode cX12_proud 19 = .ok (.if_icmp .eq 18, 3) := by decide +kernel
theorem dX12_proud_22 : decode cX12_proud 22 = .ok (.aload_n 0, 1) := by decide +kernel
theorem dX12_proud_23 : decode cX12_proud 23 = .ok (.iload_n 2, 1) := by decide +kernel
theorem dX12_proud_24 : decode cX12_proud 24 = .ok (.iconst 0, 1) := by decide +kernel
theorem dX12_proud_25 : decode cX12_proud 25 = .ok (.invokevirtual 272, 3) := by decide +kernel
theorem dX12_proud_28 : decode cX12_proud 28 = .ok (.aload_n 0, 1) := by decide +kernel
theorem dX12_proud_29 : decode cX12_proud 29 = .ok (.iload_n 1, 1) := by decide +kernel
theorem dX12_proud_30 : decode cX12_proud 30 = .ok (.iconst 0, 1) := by decide +kernel
theorem dX12_proud_31 : decode cX12_proud 31 = .ok (.invokevirtual 272, 3) := by decide +kernel
theorem dX12_proud_34 : decode cX12_proud 34 = .ok (.if_icmp .le 5, 3) := by decide +kernel
theorem dX12_proud_37 : decode cX12_proud 37 = .ok (.iload_n 2, 1) := by decide +kernel
theorem dX12_proud_38 : decode cX12_proud 38 = .ok (.istore_n 1, 1) := by decide +kernel
theorem dX12_proud_39 : decode cX12_proud 39 = .ok (.iinc 2 1, 3) := by decide +kernel
theorem dX12_proud_42 : decode cX12_proud 42 = .ok (.goto (-33), 3) := by decide +kernel
theorem dX12_proud_45 : decode cX12_proud 45 = .ok (.iload_n 1, 1) := by decide +kernel
theorem dX12_proud_46 : decode cX12_proud 46 = .ok (.ireturn, 1) := by decide +kernel
theorem dX12_offs_0 : decode cX12_offs 0 = .ok (.aload_n 0, 1) := by decide +kernel
theorem dX12_offs_1 : decode cX12_offs 1 = .ok (.iconst 0, 1) := by decide +kernel
theorem dX12_offs_2 : decode cX12_offs 2 = .ok (.putfield 3, 3) := by decide +kernel
theorem dX12_offs_5 : decode cX12_offs 5 = .ok (.iconst 0, 1) := by decide +kernel
theorem dX12_offs_6 : decode cX12_offs 6 = .ok (.istore_n 1, 1) := by decide +kernel
theorem dX12_offs_7 : decode cX12_offs 7 = .ok (.iconst 0, 1) := by decide +kernel
theorem dX12_offs_8 : decode cX12_offs 8 = .ok (.istore_n 2, 1) := by decide +kernel
theorem dX12_offs_9 : decode cX12_offs 9 = .ok (.iload_n 2, 1) := by decide +kernel
theorem dX12_offs_10 : decode cX12_offs 10 = .ok (.aload_n 0, 1) := by decide +kernel
theorem dX12_offs_11 : decode cX12_offs 11 = .ok (.invokevirtual 59, 3) := by decide +kernel
theorem dX12_offs_14 : decode cX12_offs 14 = .ok (.if_icmp .ge 28, 3) := by decide +kernel
theorem dX12_offs_17 : decode cX12_offs 17 = .ok (.iload_n 1, 1) := by decide +kernel
theorem dX12_offs_18 : decode cX12_offs 18 = .ok (.aload_n 0, 1) := by decide +kernel
theorem dX12_offs_19 : decode cX12_offs 19 = .ok (.iload_n 2, 1) := by decide +kernel
theorem dX12_offs_20 : decode cX12_offs 20 = .ok (.iconst 3, 1) := by decide +kernel
theorem dX12_offs_21 : decode cX12_offs 21 = .ok (.invokevirtual 272, 3) := by decide +kernel
theorem dX12_offs_24 : decode cX12_offs 24 = .ok (.ifCond .le 9, 3) := by decide +kernel
theorem dX12_offs_27 : decode cX12_offs 27 = .ok (.iconst 1, 1) := by decide +kernel
theorem dX12_offs_28 : decode cX12_offs 28 = .ok (.iload_n 2, 1) := by decide +kernel
theorem dX12_offs_29 : decode cX12_offs 29 = .ok (.ishl, 1) := by decide +kernel
theorem dX12_offs_30 : decode cX12_offs 30 = .ok (.goto 4, 3) := by decide +kernel
theorem dX12_offs_33 : decode cX12_offs 33 = .ok (.iconst 0, 1) := by decide +kernel
theorem dX12_offs_34 : decode cX12_offs 34 = .ok (.ior, 1) := by decide +kernel
theorem dX12_offs_35 : decode cX12_offs 35 = .ok (.istore_n 1, 1) := by decide +kernel
theorem dX12_offs_36 : decode cX12_offs 36 = .ok (.iinc 2 1, 3) := by decide +kernel
theorem dX12_offs_39 : decode cX12_offs 39 = .ok (.goto (-30), 3) := by decide +kernel
theorem dX12_offs_42 : decode cX12_offs 42 = .ok (.iload_n 1, 1) := by decide +kernel
theorem dX12_offs_43 : decode cX12_offs 43 = .ok (.ireturn, 1) := by decide +kernel
theorem dX12_twins_0 : decode cX12_twins 0 = .ok (.aload_n 0, 1) := by decide +kernel
theorem dX12_twins_1 : decode cX12_twins 1 = .ok (.iconst 0, 1) := by decide +kernel
theorem dX12_twins_2 : decode cX12_twins 2 = .ok (.putfield 3, 3) := by decide +kernel
theorem dX12_twins_5 : decode cX12_twins 5 = .ok (.iconst 0, 1) := by decide +kernel
theorem dX12_twins_6 : decode cX12_twins 6 = .ok (.istore_n 1, 1) := by decide +kernel
theorem dX12_twins_7 : decode cX12_twins 7 = .ok (.iconst 0, 1) := by decide +kernel
theorem dX12_twins_8 : decode cX12_twins 8 = .ok (.istore_n 2, 1) := by decide +kernel
theorem dX12_twins_9 : decode cX12_twins 9 = .ok (.iload_n 2, 1) := by decide +kernel
theorem dX12_twins_10 : decode cX12_twins 10 = .ok (.aload_n 0, 1) := by decide +kernel
theorem dX12_twins_11 : decode cX12_twins 11 = .ok (.invokevirtual 73, 3) := by decide +kernel
theorem dX12_twins_14 : decode cX12_twins 14 = .ok (.if_icmp .ge 76, 3) := by decide +kernel
theorem dX12_twins_17 : decode cX12_twins 17 = .ok (.iconst 0, 1) := by decide +kernel
theorem dX12_twins_18 : decode cX12_twins 18 = .ok (.istore_n 3, 1) := by decide +kernel
theorem dX12_twins_19 : decode cX12_twins 19 = .ok (.iload_n 3, 1) := by decide +kernel
theorem dX12_twins_20 : decode cX12_twins 20 = .ok (.iload_n 2, 1) := by decide +kernel
theorem dX12_twins_21 : decode cX12_twins 21 = .ok (.if_icmp .ge 63, 3) := by decide +kernel
theorem dX12_twins_24 : decode cX12_twins 24 = .ok (.iload_n 1, 1) := by decide +kernel
theorem dX12_twins_25 : decode cX12_twins 25 = .ok (.aload_n 0, 1) := by decide +kernel
theorem dX12_twins_26 : decode cX12_twins 26 = .ok (.iload_n 2, 1) := by decide +kernel
theorem dX12_twins_27 : decode cX12_twins 27 = .ok (.invokevirtual 76, 3) := by decide +kernel
theorem dX12_twins_30 : decode cX12_twins 30 = .ok (.ifCond .ne 45, 3) := by decide +kernel
theorem dX12_twins_33 : decode cX12_twins 33 = .ok (.aload_n 0, 1) := by decide +kernel
theorem dX12_twins_34 : decode cX12_twins 34 = .ok (.iload_n 3, 1) := by decide +kernel
theorem dX12_twins_35 : decode cX12_twins 35 = .ok (.invokevirtual 76, 3) := by decide +kernel
theorem dX12_twins_38 : decode cX12_twins 38 = .ok (.ifCond .ne 37, 3) := by decide +kernel
theorem dX12_twins_41 : decode cX12_twins 41 = .ok (.aload_n 0, 1) := by decide +kernel
theorem dX12_twins_42 : decode cX12_twins 42 = .ok (.iload_n 2, 1) := by decide +kernel
theorem dX12_twins_43 : decode cX12_twins 43 = .ok (.iconst 2, 1) := by decide +kernel
theorem dX12_twins_44 : decode cX12_twins 44 = .ok (.invokevirtual 70, 3) := by decide +kernel
theorem dX12_twins_47 : decode cX12_twins 47 = .ok (.aload_n 0, 1) := by decide +kernel
theorem dX12_twins_48 : decode cX12_twins 48 = .ok (.iload_n 3, 1) := by decide +kernel
theorem dX12_twins_49 : decode cX12_twins 49 = .ok (.iconst 2, 1) := by decide +kernel
theorem dX12_twins_50 : decode cX12_twins 50 = .ok (.invokevirtual 70, 3) := by decide +kernel
theorem dX12_twins_53 : decode cX12_twins 53 = .ok (.if_icmp .ne 22, 3) := by decide +kernel
theorem dX12_twins_56 : decode cX12_twins 56 = .ok (.aload_n 0, 1) := by decide +kernel
theorem dX12_twins_57 : decode cX12_twins 57 = .ok (.iload_n 2, 1) := by decide +kernel
theorem dX12_twins_58 : decode cX12_twins 58 = .ok (.iconst 3, 1) := by decide +kernel
theorem dX12_twins_59 : decode cX12_twins 59 = .ok (.invokevirtual 70, 3) := by decide +kernel
theorem dX12_twins_62 : decode cX12_twins 62 = .ok (.aload_n 0, 1) := by decide +kernel
theorem dX12_twins_63 : decode cX12_twins 63 = .ok (.iload_n 3, 1) := by decide +kernel
theorem dX12_twins_64 : decode cX12_twins 64 = .ok (.iconst 3, 1) := by decide +kernel
theorem dX12_twins_65 : decode cX12_twins 65 = .ok (.invokevirtual 70, 3) := by decide +kernel
theorem dX12_twins_68 : decode cX12_twins 68 = .ok (.if_icmp .ne 7, 3) := by decide +kernel
theorem dX12_twins_71 : decode cX12_twins 71 = .ok (.iconst 1, 1) := by decide +kernel
theorem dX12_twins_72 : decode cX12_twins 72 = .ok (.goto 4, 3) := by decide +kernel
theorem dX12_twins_75 : decode cX12_twins 75 = .ok (.iconst 0, 1) := by decide +kernel
theorem dX12_twins_76 : decode cX12_twins 76 = .ok (.iadd, 1) := by decide +kernel
theorem dX12_twins_77 : decode cX12_twins 77 = .ok (.istore_n 1, 1) := by decide +kernel
theorem dX12_twins_78 : decode cX12_twins 78 = .ok (.iinc 3 1, 3) := by decide +kernel
theorem dX12_twins_81 : decode cX12_twins 81 = .ok (.goto (-62), 3) := by decide +kernel
theorem dX12_twins_84 : decode cX12_twins 84 = .ok (.iinc 2 1, 3) := by decide +kernel
theorem dX12_twins_87 : decode cX12_twins 87 = .ok (.goto (-78), 3) := by decide +kernel
theorem dX12_twins_90 : decode cX12_twins 90 = .ok (.iload_n 1, 1) := by decide +kernel
theorem dX12_twins_91 : decode cX12_twins 91 = .ok (.ireturn, 1) := by decide +kernel
theorem dX12_trial_0 : decode cX12_trial 0 = .ok (.aload_n 0, 1) := by decide +kernel
theorem dX12_trial_1 : decode cX12_trial 1 = .ok (.iconst 0, 1) := by decide +kernel
theorem dX12_trial_2 : decode cX12_trial 2 = .ok (.putfield 3, 3) := by decide +kernel
theorem dX12_trial_5 : decode cX12_trial 5 = .ok (.aload_n 0, 1) := by decide +kernel
theorem dX12_trial_6 : decode cX12_trial 6 = .ok (.iload_n 1, 1) := by decide +kernel
theorem dX12_trial_7 : decode cX12_trial 7 = .ok (.invokestatic 378, 3) := by decide +kernel
theorem dX12_trial_10 : decode cX12_trial 10 = .ok (.iconst 1, 1) := by decide +kernel
theorem dX12_trial_11 : decode cX12_trial 11 = .ok (.invokevirtual 269, 3) := by decide +kernel
theorem dX12_trial_14 : decode cX12_trial 14 = .ok (.ifCond .eq 5, 3) := by decide +kernel
theorem dX12_trial_17 : decode cX12_trial 17 = .ok (.iconst 0, 1) := by decide +kernel
theorem dX12_trial_18 : decode cX12_trial 18 = .ok (.ireturn, 1) := by decide +kernel
theorem dX12_trial_19 : decode cX12_trial 19 = .ok (.aload_n 0, 1) := by decide +kernel
theorem dX12_trial_20 : decode cX12_trial 20 = .ok (.invokevirtual 371, 3) := by decide +kernel
theorem dX12_trial_23 : decode cX12_trial 23 = .ok (.aload_n 0, 1) := by decide +kernel
theorem dX12_trial_24 : decode cX12_trial 24 = .ok (.iload_n 1, 1) := by decide +kernel
theorem dX12_trial_25 : decode cX12_trial 25 = .ok (.iconst 0, 1) := by decide +kernel
theorem dX12_trial_26 : decode cX12_trial 26 = .ok (.invokevirtual 364, 3) := by decide +kernel
theorem dX12_trial_29 : decode cX12_trial 29 = .ok (.pop, 1) := by decide +kernel
theorem dX12_trial_30 : decode cX12_trial 30 = .ok (.iload_n 2, 1) := by decide +kernel
theorem dX12_trial_31 : decode cX12_trial 31 = .ok (.ifCond .eq 14, 3) := by decide +kernel
theorem dX12_trial_34 : decode cX12_trial 34 = .ok (.aload_n 0, 1) := by decide +kernel
theorem dX12_trial_35 : decode cX12_trial 35 = .ok (.aload_n 0, 1) := by decide +kernel
theorem dX12_trial_36 : decode cX12_trial 36 = .ok (.invokevirtual 291, 3) := by decide +kernel
theorem dX12_trial_39 : decode cX12_trial 39 = .ok (.invokevirtual 294, 3) := by decide +kernel
theorem dX12_trial_42 : decode cX12_trial 42 = .ok (.goto 7, 3) := by decide +kernel
theorem dX12_trial_45 : decode cX12_trial 45 = .ok (.aload_n 0, 1) := by decide +kernel
theorem dX12_trial_46 : decode cX12_trial 46 = .ok (.invokevirtual 291, 3) := by decide +kernel
theorem dX12_trial_49 : decode cX12_trial 49 = .ok (.istore_n 3, 1) := by decide +kernel
theorem dX12_trial_50 : decode cX12_trial 50 = .ok (.aload_n 0, 1) := by decide +kernel
theorem dX12_trial_51 : decode cX12_trial 51 = .ok (.invokevirtual 374, 3) := by decide +kernel
theorem dX12_trial_54 : decode cX12_trial 54 = .ok (.iload_n 3, 1) := by decide +kernel
theorem dX12_trial_55 : decode cX12_trial 55 = .ok (.ireturn, 1) := by decide +kernel
theorem dX12_span_0 : decode cX12_span 0 = .ok (.aload_n 0, 1) := by decide +kernel
theorem dX12_span_1 : decode cX12_span 1 = .ok (.iconst 0, 1) := by decide +kernel
theorem dX12_span_2 : decode cX12_span 2 = .ok (.putfield 3, 3) := by decide +kernel
theorem dX12_span_5 : decode cX12_span 5 = .ok (.aload_n 0, 1) := by decide +kernel
theorem dX12_span_6 : decode cX12_span 6 = .ok (.iload_n 1, 1) := by decide +kernel
theorem dX12_span_7 : decode cX12_span 7 = .ok (.invokestatic 378, 3) := by decide +kernel
theorem dX12_span_10 : decode cX12_span 10 = .ok (.iconst 1, 1) := by decide +kernel
theorem dX12_span_11 : decode cX12_span 11 = .ok (.invokevirtual 269, 3) := by decide +kernel
theorem dX12_span_14 : decode cX12_span 14 = .ok (.ifCond .eq 5, 3) := by decide +kernel
theorem dX12_span_17 : decode cX12_span 17 = .ok (.iconst 0, 1) := by decide +kernel
theorem dX12_span_18 : decode cX12_span 18 = .ok (.ireturn, 1) := by decide +kernel
theorem dX12_span_19 : decode cX12_span 19 = .ok (.aload_n 0, 1) := by decide +kernel
theorem dX12_span_20 : decode cX12_span 20 = .ok (.invokevirtual 371, 3) := by decide +kernel
theorem dX12_span_23 : decode cX12_span 23 = .ok (.iconst (-1), 1) := by decide +kernel
theorem dX12_span_24 : decode cX12_span 24 = .ok (.istore_n 3, 1) := by decide +kernel
theorem dX12_span_25 : decode cX12_span 25 = .ok (.iconst 1, 1) := by decide +kernel
theorem dX12_span_26 : decode cX12_span 26 = .ok (.istore 4, 2) := by decide +kernel
theorem dX12_span_28 : decode cX12_span 28 = .ok (.iload 4, 2) := by decide +kernel
theorem dX12_span_30 : decode cX12_span 30 = .ok (.bipush 6, 2) := by decide +kernel
theorem dX12_span_32 : decode cX12_span 32 = .ok (.if_icmp .gt 68, 3) := by decide +kernel
theorem dX12_span_35 : decode cX12_span 35 = .ok (.aload_n 0, 1) := by decide +kernel
theorem dX12_span_36 : decode cX12_span 36 = .ok (.getfield 13, 3) := by decide +kernel
theorem dX12_span_39 : decode cX12_span 39 = .ok (.bipush 9, 2) := by decide +kernel
theorem dX12_span_41 : decode cX12_span 41 = .ok (.iload 4, 2) := by decide +kernel
theorem dX12_span_43 : decode cX12_span 43 = .ok (.iastore, 1) := by decide +kernel
theorem dX12_span_44 : decode cX12_span 44 = .ok (.aload_n 0, 1) := by decide +kernel
theorem dX12_span_45 : decode cX12_span 45 = .ok (.iload_n 1, 1) := by decide +kernel
theorem dX12_span_46 : decode cX12_span 46 = .ok (.iconst 0, 1) := by decide +kernel
theorem dX12_span_47 : decode cX12_span 47 = .ok (.invokevirtual 364, 3) := by decide +kernel
theorem dX12_span_50 : decode cX12_span 50 = .ok (.pop, 1) := by decide +kernel
theorem dX12_span_51 : decode cX12_span 51 = .ok (.aload_n 0, 1) := by decide +kernel
theorem dX12_span_52 : decode cX12_span 52 = .ok (.aload_n 0, 1) := by decide +kernel
theorem dX12_span_53 : decode cX12_span 53 = .ok (.invokevirtual 291, 3) := by decide +kernel
theorem dX12_span_56 : decode cX12_span 56 = .ok (.invokevirtual 294, 3) := by decide +kernel
theorem dX12_span_59 : decode cX12_span 59 = .ok (.istore 5, 2) := by decide +kernel
theorem dX12_span_61 : decode cX12_span 61 = .ok (.aload_n 0, 1) := by decide +kernel
theorem dX12_span_62 : decode cX12_span 62 = .ok (.invokevirtual 374, 3) := by decide +kernel
theorem dX12_span_65 : decode cX12_span 65 = .ok (.iload_n 3, 1) := by decide +kernel
theorem dX12_span_66 : decode cX12_span 66 = .ok (.ifCond .ge 8, 3) := by decide +kernel
theorem dX12_span_69 : decode cX12_span 69 = .ok (.iload 5, 2) := by decide +kernel
theorem dX12_span_71 : decode cX12_span 71 = .ok (.goto 22, 3) := by decide +kernel
theorem dX12_span_74 : decode cX12_span 74 = .ok (.iload_n 2, 1) := by decide +kernel
theorem dX12_span_75 : decode cX12_span 75 = .ok (.ifCond .eq 12, 3) := by decide +kernel
theorem dX12_span_78 : decode cX12_span 78 = .ok (.iload_n 3, 1) := by decide +kernel
theorem dX12_span_79 : decode cX12_span 79 = .ok (.iload 5, 2) := by decide +kernel
theorem dX12_span_81 : decode cX12_span 81 = .ok (.invokestatic 310, 3) := by decide +kernel
theorem dX12_span_84 : decode cX12_span 84 = .ok (.goto 9, 3) := by decide +kernel
theorem dX12_span_87 : decode cX12_span 87 = .ok (.iload_n 3, 1) := by decide +kernel
theorem dX12_span_88 : decode cX12_span 88 = .ok (.iload 5, 2) := by decide +kernel
theorem dX12_span_90 : decode cX12_span 90 = .ok (.invokestatic 330, 3) := by decide +kernel
theorem dX12_span_93 : decode cX12_span 93 = .ok (.istore_n 3, 1) := by decide +kernel
theorem dX12_span_94 : decode cX12_span 94 = .ok (.iinc 4 1, 3) := by decide +kernel
theorem dX12_span_97 : decode cX12_span 97 = .ok (.goto (-69), 3) := by decide +kernel
theorem dX12_span_100 : decode cX12_span 100 = .ok (.iload_n 3, 1) := by decide +kernel
theorem dX12_span_101 : decode cX12_span 101 = .ok (.ireturn, 1) := by decide +kernel
theorem dX12_ofLog_0 : decode cX12_ofLog 0 = .ok (.aload_n 0, 1) := by decide +kernel
theorem dX12_ofLog_1 : decode cX12_ofLog 1 = .ok (.getfield 13, 3) := by decide +kernel
theorem dX12_ofLog_4 : decode cX12_ofLog 4 = .ok (.bipush 124, 2) := by decide +kernel
theorem dX12_ofLog_6 : decode cX12_ofLog 6 = .ok (.iconst 4, 1) := by decide +kernel
theorem dX12_ofLog_7 : decode cX12_ofLog 7 = .ok (.iload_n 1, 1) := by decide +kernel
theorem dX12_ofLog_8 : decode cX12_ofLog 8 = .ok (.imul, 1) := by decide +kernel
theorem dX12_ofLog_9 : decode cX12_ofLog 9 = .ok (.iadd, 1) := by decide +kernel
theorem dX12_ofLog_10 : decode cX12_ofLog 10 = .ok (.iload_n 2, 1) := by decide +kernel
theorem dX12_ofLog_11 : decode cX12_ofLog 11 = .ok (.iadd, 1) := by decide +kernel
theorem dX12_ofLog_12 : decode cX12_ofLog 12 = .ok (.iaload, 1) := by decide +kernel
theorem dX12_ofLog_13 : decode cX12_ofLog 13 = .ok (.ireturn, 1) := by decide +kernel
theorem dX12_led_0 : decode cX12_led 0 = .ok (.aload_n 0, 1) := by decide +kernel
theorem dX12_led_1 : decode cX12_led 1 = .ok (.iconst 0, 1) := by decide +kernel
theorem dX12_led_2 : decode cX12_led 2 = .ok (.putfield 3, 3) := by decide +kernel
theorem dX12_led_5 : decode cX12_led 5 = .ok (.aload_n 0, 1) := by decide +kernel
theorem dX12_led_6 : decode cX12_led 6 = .ok (.aload_n 0, 1) := by decide +kernel
theorem dX12_led_7 : decode cX12_led 7 = .ok (.iload_n 1, 1) := by decide +kernel
theorem dX12_led_8 : decode cX12_led 8 = .ok (.invokevirtual 315, 3) := by decide +kernel
theorem dX12_led_11 : decode cX12_led 11 = .ok (.iconst 1, 1) := by decide +kernel
theorem dX12_led_12 : decode cX12_led 12 = .ok (.invokevirtual 269, 3) := by decide +kernel
theorem dX12_led_15 : decode cX12_led 15 = .ok (.ifCond .eq 5, 3) := by decide +kernel
theorem dX12_led_18 : decode cX12_led 18 = .ok (.iconst 0, 1) := by decide +kernel
theorem dX12_led_19 : decode cX12_led 19 = .ok (.ireturn, 1) := by decide +kernel
theorem dX12_led_20 : decode cX12_led 20 = .ok (.iconst 0, 1) := by decide +kernel
theorem dX12_led_21 : decode cX12_led 21 = .ok (.istore_n 3, 1) := by decide +kernel
theorem dX12_led_22 : decode cX12_led 22 = .ok (.iconst (-1), 1) := by decide +kernel
theorem dX12_led_23 : decode cX12_led 23 = .ok (.istore 4, 2) := by decide +kernel
theorem dX12_led_25 : decode cX12_led 25 = .ok (.aload_n 0, 1) := by decide +kernel
theorem dX12_led_26 : decode cX12_led 26 = .ok (.getfield 13, 3) := by decide +kernel
theorem dX12_led_29 : decode cX12_led 29 = .ok (.bipush 8, 2) := by decide +kernel
theorem dX12_led_31 : decode cX12_led 31 = .ok (.iaload, 1) := by decide +kernel
theorem dX12_led_32 : decode cX12_led 32 = .ok (.iconst 1, 1) := by decide +kernel
theorem dX12_led_33 : decode cX12_led 33 = .ok (.isub, 1) := by decide +kernel
theorem dX12_led_34 : decode cX12_led 34 = .ok (.istore 5, 2) := by decide +kernel
theorem dX12_led_36 : decode cX12_led 36 = .ok (.iload 5, 2) := by decide +kernel
theorem dX12_led_38 : decode cX12_led 38 = .ok (.ifCond .lt 35, 3) := by decide +kernel
theorem dX12_led_41 : decode cX12_led 41 = .ok (.aload_n 0, 1) := by decide +kernel
theorem dX12_led_42 : decode cX12_led 42 = .ok (.iload 5, 2) := by decide +kernel
theorem dX12_led_44 : decode cX12_led 44 = .ok (.iconst 1, 1) := by decide +kernel
theorem dX12_led_45 : decode cX12_led 45 = .ok (.invokevirtual 445, 3) := by decide +kernel
theorem dX12_led_48 : decode cX12_led 48 = .ok (.iload_n 1, 1) := by decide +kernel
theorem dX12_led_49 : decode cX12_led 49 = .ok (.if_icmp .eq 6, 3) := by decide +kernel
theorem dX12_led_52 : decode cX12_led 52 = .ok (.goto 15, 3) := by decide +kernel
theorem dX12_led_55 : decode cX12_led 55 = .ok (.iinc 3 1, 3) := by decide +kernel
theorem dX12_led_58 : decode cX12_led 58 = .ok (.aload_n 0, 1) := by decide +kernel
theorem dX12_led_59 : decode cX12_led 59 = .ok (.iload 5, 2) := by decide +kernel
theorem dX12_led_61 : decode cX12_led 61 = .ok (.iconst 0, 1) := by decide +kernel
theorem dX12_led_62 : decode cX12_led 62 = .ok (.invokevirtual 445, 3) := by decide +kernel
theorem dX12_led_65 : decode cX12_led 65 = .ok (.istore 4, 2) := by decide +kernel
theorem dX12_led_67 : decode cX12_led 67 = .ok (.iinc 5 (-1), 3) := by decide +kernel
theorem dX12_led_70 : decode cX12_led 70 = .ok (.goto (-34), 3) := by decide +kernel
theorem dX12_led_73 : decode cX12_led 73 = .ok (.iload_n 2, 1) := by decide +kernel
theorem dX12_led_74 : decode cX12_led 74 = .ok (.ifCond .eq 8, 3) := by decide +kernel
theorem dX12_led_77 : decode cX12_led 77 = .ok (.iload 4, 2) := by decide +kernel
theorem dX12_led_79 : decode cX12_led 79 = .ok (.goto 4, 3) := by decide +kernel
theorem dX12_led_82 : decode cX12_led 82 = .ok (.iload_n 3, 1) := by decide +kernel
theorem dX12_led_83 : decode cX12_led 83 = .ok (.ireturn, 1) := by decide +kernel
theorem dX12_log_0 : decode cX12_log 0 = .ok (.aload_n 0, 1) := by decide +kernel
theorem dX12_log_1 : decode cX12_log 1 = .ok (.iconst 0, 1) := by decide +kernel
theorem dX12_log_2 : decode cX12_log 2 = .ok (.putfield 3, 3) := by decide +kernel
theorem dX12_log_5 : decode cX12_log 5 = .ok (.aload_n 0, 1) := by decide +kernel
theorem dX12_log_6 : decode cX12_log 6 = .ok (.iload_n 2, 1) := by decide +kernel
theorem dX12_log_7 : decode cX12_log 7 = .ok (.iconst 0, 1) := by decide +kernel
theorem dX12_log_8 : decode cX12_log 8 = .ok (.iconst 3, 1) := by decide +kernel
theorem dX12_log_9 : decode cX12_log 9 = .ok (.invokestatic 84, 3) := by decide +kernel
theorem dX12_log_12 : decode cX12_log 12 = .ok (.ifCond .ne 7, 3) := by decide +kernel
theorem dX12_log_15 : decode cX12_log 15 = .ok (.iconst 1, 1) := by decide +kernel
theorem dX12_log_16 : decode cX12_log 16 = .ok (.goto 4, 3) := by decide +kernel
theorem dX12_log_19 : decode cX12_log 19 = .ok (.iconst 0, 1) := by decide +kernel
theorem dX12_log_20 : decode cX12_log 20 = .ok (.iconst 1, 1) := by decide +kernel
theorem dX12_log_21 : decode cX12_log 21 = .ok (.invokevirtual 269, 3) := by decide +kernel
theorem dX12_log_24 : decode cX12_log 24 = .ok (.ifCond .eq 5, 3) := by decide +kernel
theorem dX12_log_27 : decode cX12_log 27 = .ok (.iconst 0, 1) := by decide +kernel
theorem dX12_log_28 : decode cX12_log 28 = .ok (.ireturn, 1) := by decide +kernel
theorem dX12_log_29 : decode cX12_log 29 = .ok (.iload_n 1, 1) := by decide +kernel
theorem dX12_log_30 : decode cX12_log 30 = .ok (.iconst 0, 1) := by decide +kernel
theorem dX12_log_31 : decode cX12_log 31 = .ok (.aload_n 0, 1) := by decide +kernel
theorem dX12_log_32 : decode cX12_log 32 = .ok (.getfield 13, 3) := by decide +kernel
theorem dX12_log_35 : decode cX12_log 35 = .ok (.bipush 8, 2) := by decide +kernel
theorem dX12_log_37 : decode cX12_log 37 = .ok (.iaload, 1) := by decide +kernel
theorem dX12_log_38 : decode cX12_log 38 = .ok (.iconst 1, 1) := by decide +kernel
theorem dX12_log_39 : decode cX12_log 39 = .ok (.isub, 1) := by decide +kernel
theorem dX12_log_40 : decode cX12_log 40 = .ok (.invokestatic 84, 3) := by decide +kernel
theorem dX12_log_43 : decode cX12_log 43 = .ok (.ifCond .eq 12, 3) := by decide +kernel
theorem dX12_log_46 : decode cX12_log 46 = .ok (.aload_n 0, 1) := by decide +kernel
theorem dX12_log_47 : decode cX12_log 47 = .ok (.iload_n 1, 1) := by decide +kernel
theorem dX12_log_48 : decode cX12_log 48 = .ok (.iload_n 2, 1) := by decide +kernel
theorem dX12_log_49 : decode cX12_log 49 = .ok (.invokevirtual 445, 3) := by decide +kernel
theorem dX12_log_52 : decode cX12_log 52 = .ok (.goto 4, 3) := by decide +kernel
theorem dX12_log_55 : decode cX12_log 55 = .ok (.iconst (-1), 1) := by decide +kernel
theorem dX12_log_56 : decode cX12_log 56 = .ok (.ireturn, 1) := by decide +kernel
theorem dX12_seed_0 : decode cX12_seed 0 = .ok (.aload_n 0, 1) := by decide +kernel
theorem dX12_seed_1 : decode cX12_seed 1 = .ok (.iconst 0, 1) := by decide +kernel
theorem dX12_seed_2 : decode cX12_seed 2 = .ok (.putfield 3, 3) := by decide +kernel
theorem dX12_seed_5 : decode cX12_seed 5 = .ok (.aload_n 0, 1) := by decide +kernel
theorem dX12_seed_6 : decode cX12_seed 6 = .ok (.getfield 13, 3) := by decide +kernel
theorem dX12_seed_9 : decode cX12_seed 9 = .ok (.bipush 9, 2) := by decide +kernel
theorem dX12_seed_11 : decode cX12_seed 11 = .ok (.iaload, 1) := by decide +kernel
theorem dX12_seed_12 : decode cX12_seed 12 = .ok (.istore_n 2, 1) := by decide +kernel
theorem dX12_seed_13 : decode cX12_seed 13 = .ok (.aload_n 0, 1) := by decide +kernel
theorem dX12_seed_14 : decode cX12_seed 14 = .ok (.getfield 13, 3) := by decide +kernel
theorem dX12_seed_17 : decode cX12_seed 17 = .ok (.bipush 9, 2) := by decide +kernel
theorem dX12_seed_19 : decode cX12_seed 19 = .ok (.iload_n 1, 1) := by decide +kernel
theorem dX12_seed_20 : decode cX12_seed 20 = .ok (.iastore, 1) := by decide +kernel
theorem dX12_seed_21 : decode cX12_seed 21 = .ok (.iload_n 2, 1) := by decide +kernel
theorem dX12_seed_22 : decode cX12_seed 22 = .ok (.ireturn, 1) := by decide +kernel
theorem dX12_count_0 : decode cX12_count 0 = .ok (.aload_n 0, 1) := by decide +kernel
theorem dX12_count_1 : decode cX12_count 1 = .ok (.iconst 0, 1) := by decide +kernel
theorem dX12_count_2 : decode cX12_count 2 = .ok (.putfield 3, 3) := by decide +kernel
theorem dX12_count_5 : decode cX12_count 5 = .ok (.iconst 0, 1) := by decide +kernel
theorem dX12_count_6 : decode cX12_count 6 = .ok (.istore_n 2, 1) := by decide +kernel
theorem dX12_count_7 : decode cX12_count 7 = .ok (.iconst 0, 1) := by decide +kernel
theorem dX12_count_8 : decode cX12_count 8 = .ok (.istore_n 3, 1) := by decide +kernel
theorem dX12_count_9 : decode cX12_count 9 = .ok (.iload_n 3, 1) := by decide +kernel
theorem dX12_count_10 : decode cX12_count 10 = .ok (.aload_n 0, 1) := by decide +kernel
theorem dX12_count_11 : decode cX12_count 11 = .ok (.invokevirtual 59, 3) := by decide +kernel
theorem dX12_count_14 : decode cX12_count 14 = .ok (.if_icmp .ge 18, 3) := by decide +kernel
theorem dX12_count_17 : decode cX12_count 17 = .ok (.iload_n 2, 1) := by decide +kernel
theorem dX12_count_18 : decode cX12_count 18 = .ok (.aload_n 0, 1) := by decide +kernel
theorem dX12_count_19 : decode cX12_count 19 = .ok (.iload_n 3, 1) := by decide +kernel
theorem dX12_count_20 : decode cX12_count 20 = .ok (.iconst 2, 1) := by decide +kernel
theorem dX12_count_21 : decode cX12_count 21 = .ok (.invokevirtual 272, 3) := by decide +kernel
theorem dX12_count_24 : decode cX12_count 24 = .ok (.iadd, 1) := by decide +kernel
theorem dX12_count_25 : decode cX12_count 25 = .ok (.istore_n 2, 1) := by decide +kernel
theorem dX12_count_26 : decode cX12_count 26 = .ok (.iinc 3 1, 3) := by decide +kernel
theorem dX12_count_29 : decode cX12_count 29 = .ok (.goto (-20), 3) := by decide +kernel
theorem dX12_count_32 : decode cX12_count 32 = .ok (.iload_n 1, 1) := by decide +kernel
theorem dX12_count_33 : decode cX12_count 33 = .ok (.tableswitch 157 0 11 #[63, 68, 73, 80, 103, 110, 117, 125, 133, 142, 144, 152], 63) := by decide +kernel
theorem dX12_count_96 : decode cX12_count 96 = .ok (.aload_n 0, 1) := by decide +kernel
theorem dX12_count_97 : decode cX12_count 97 = .ok (.invokevirtual 59, 3) := by decide +kernel
theorem dX12_count_100 : decode cX12_count 100 = .ok (.ireturn, 1) := by decide +kernel
theorem dX12_count_101 : decode cX12_count 101 = .ok (.aload_n 0, 1) := by decide +kernel
theorem dX12_count_102 : decode cX12_count 102 = .ok (.invokevirtual 291, 3) := by decide +kernel
theorem dX12_count_105 : decode cX12_count 105 = .ok (.ireturn, 1) := by decide +kernel
theorem dX12_count_106 : decode cX12_count 106 = .ok (.aload_n 0, 1) := by decide +kernel
theorem dX12_count_107 : decode cX12_count 107 = .ok (.getfield 13, 3) := by decide +kernel
theorem dX12_count_110 : decode cX12_count 110 = .ok (.iconst 2, 1) := by decide +kernel
theorem dX12_count_111 : decode cX12_count 111 = .ok (.iaload, 1) := by decide +kernel
theorem dX12_count_112 : decode cX12_count 112 = .ok (.ireturn, 1) := by decide +kernel
theorem dX12_count_113 : decode cX12_count 113 = .ok (.aload_n 0, 1) := by decide +kernel
theorem dX12_count_114 : decode cX12_count 114 = .ok (.getfield 13, 3) := by decide +kernel
theorem dX12_count_117 : decode cX12_count 117 = .ok (.iconst 3, 1) := by decide +kernel
theorem dX12_count_118 : decode cX12_count 118 = .ok (.iaload, 1) := by decide +kernel
theorem dX12_count_119 : decode cX12_count 119 = .ok (.iconst 1, 1) := by decide +kernel
theorem dX12_count_120 : decode cX12_count 120 = .ok (.if_icmp .ne 14, 3) := by decide +kernel
theorem dX12_count_123 : decode cX12_count 123 = .ok (.aload_n 0, 1) := by decide +kernel
theorem dX12_count_124 : decode cX12_count 124 = .ok (.getfield 13, 3) := by decide +kernel
theorem dX12_count_127 : decode cX12_count 127 = .ok (.sipush 364, 3) := by decide +kernel
theorem dX12_count_130 : decode cX12_count 130 = .ok (.iaload, 1) := by decide +kernel
theorem dX12_count_131 : decode cX12_count 131 = .ok (.goto 4, 3) := by decide +kernel
theorem dX12_count_134 : decode cX12_count 134 = .ok (.iconst (-1), 1) := by decide +kernel
theorem dX12_count_135 : decode cX12_count 135 = .ok (.ireturn, 1) := by decide +kernel
theorem dX12_count_136 : decode cX12_count 136 = .ok (.aload_n 0, 1) := by decide +kernel
theorem dX12_count_137 : decode cX12_count 137 = .ok (.getfield 13, 3) := by decide +kernel
theorem dX12_count_140 : decode cX12_count 140 = .ok (.iconst 4, 1) := by decide +kernel
theorem dX12_count_141 : decode cX12_count 141 = .ok (.iaload, 1) := by decide +kernel
theorem dX12_count_142 : decode cX12_count 142 = .ok (.ireturn, 1) := by decide +kernel
theorem dX12_count_143 : decode cX12_count 143 = .ok (.aload_n 0, 1) := by decide +kernel
theorem dX12_count_144 : decode cX12_count 144 = .ok (.getfield 13, 3) := by decide +kernel
theorem dX12_count_147 : decode cX12_count 147 = .ok (.iconst 5, 1) := by decide +kernel
theorem dX12_count_148 : decode cX12_count 148 = .ok (.iaload, 1) := by decide +kernel
theorem dX12_count_149 : decode cX12_count 149 = .ok (.ireturn, 1) := by decide +kernel
theorem dX12_count_150 : decode cX12_count 150 = .ok (.aload_n 0, 1) := by decide +kernel
theorem dX12_count_151 : decode cX12_count 151 = .ok (.getfield 13, 3) := by decide +kernel
theorem dX12_count_154 : decode cX12_count 154 = .ok (.bipush 6, 2) := by decide +kernel
theorem dX12_count_156 : decode cX12_count 156 = .ok (.iaload, 1) := by decide +kernel
theorem dX12_count_157 : decode cX12_count 157 = .ok (.ireturn, 1) := by decide +kernel
theorem dX12_count_158 : decode cX12_count 158 = .ok (.aload_n 0, 1) := by decide +kernel
theorem dX12_count_159 : decode cX12_count 159 = .ok (.getfield 13, 3) := by decide +kernel
theorem dX12_count_162 : decode cX12_count 162 = .ok (.bipush 7, 2) := by decide +kernel
theorem dX12_count_164 : decode cX12_count 164 = .ok (.iaload, 1) := by decide +kernel
theorem dX12_count_165 : decode cX12_count 165 = .ok (.ireturn, 1) := by decide +kernel
theorem dX12_count_166 : decode cX12_count 166 = .ok (.aload_n 0, 1) := by decide +kernel
theorem dX12_count_167 : decode cX12_count 167 = .ok (.aload_n 0, 1) := by decide +kernel
theorem dX12_count_168 : decode cX12_count 168 = .ok (.invokevirtual 291, 3) := by decide +kernel
theorem dX12_count_171 : decode cX12_count 171 = .ok (.invokevirtual 294, 3) := by decide +kernel
theorem dX12_count_174 : decode cX12_count 174 = .ok (.ireturn, 1) := by decide +kernel
theorem dX12_count_175 : decode cX12_count 175 = .ok (.iload_n 2, 1) := by decide +kernel
theorem dX12_count_176 : decode cX12_count 176 = .ok (.ireturn, 1) := by decide +kernel
theorem dX12_count_177 : decode cX12_count 177 = .ok (.aload_n 0, 1) := by decide +kernel
theorem dX12_count_178 : decode cX12_count 178 = .ok (.getfield 13, 3) := by decide +kernel
theorem dX12_count_181 : decode cX12_count 181 = .ok (.bipush 8, 2) := by decide +kernel
theorem dX12_count_183 : decode cX12_count 183 = .ok (.iaload, 1) := by decide +kernel
theorem dX12_count_184 : decode cX12_count 184 = .ok (.ireturn, 1) := by decide +kernel
theorem dX12_count_185 : decode cX12_count 185 = .ok (.aload_n 0, 1) := by decide +kernel
theorem dX12_count_186 : decode cX12_count 186 = .ok (.getfield 56, 3) := by decide +kernel
theorem dX12_count_189 : decode cX12_count 189 = .ok (.ireturn, 1) := by decide +kernel
theorem dX12_count_190 : decode cX12_count 190 = .ok (.iconst (-1), 1) := by decide +kernel
theorem dX12_count_191 : decode cX12_count 191 = .ok (.ireturn, 1) := by decide +kernel
