/-! what each instruction is: the class -/
theorem dX0_init_0 : decode cX0_init 0 = .ok (.aload_n 0, 1) := by decide +kernel
theorem dX0_init_1 : decode cX0_init 1 = .ok (.invokespecial 3, 3) := by decide +kernel
theorem dX0_init_4 : decode cX0_init 4 = .ok (.aload_n 0, 1) := by decide +kernel
theorem dX0_init_5 : decode cX0_init 5 = .ok (.bipush 6, 2) := by decide +kernel
theorem dX0_init_7 : decode cX0_init 7 = .ok (.newarray .int, 2) := by decide +kernel
theorem dX0_init_9 : decode cX0_init 9 = .ok (.putfield 9, 3) := by decide +kernel
theorem dX0_init_12 : decode cX0_init 12 = .ok (.aload_n 0, 1) := by decide +kernel
theorem dX0_init_13 : decode cX0_init 13 = .ok (.bipush 6, 2) := by decide +kernel
theorem dX0_init_15 : decode cX0_init 15 = .ok (.newarray .int, 2) := by decide +kernel
theorem dX0_init_17 : decode cX0_init 17 = .ok (.putfield 15, 3) := by decide +kernel
theorem dX0_init_20 : decode cX0_init 20 = .ok (.aload_n 0, 1) := by decide +kernel
theorem dX0_init_21 : decode cX0_init 21 = .ok (.bipush 6, 2) := by decide +kernel
theorem dX0_init_23 : decode cX0_init 23 = .ok (.newarray .int, 2) := by decide +kernel
theorem dX0_init_25 : decode cX0_init 25 = .ok (.putfield 18, 3) := by decide +kernel
theorem dX0_init_28 : decode cX0_init 28 = .ok (.aload_n 0, 1) := by decide +kernel
theorem dX0_init_29 : decode cX0_init 29 = .ok (.bipush 6, 2) := by decide +kernel
theorem dX0_init_31 : decode cX0_init 31 = .ok (.newarray .int, 2) := by decide +kernel
theorem dX0_init_33 : decode cX0_init 33 = .ok (.putfield 21, 3) := by decide +kernel
theorem dX0_init_36 : decode cX0_init 36 = .ok (.aload_n 0, 1) := by decide +kernel
theorem dX0_init_37 : decode cX0_init 37 = .ok (.bipush 6, 2) := by decide +kernel
theorem dX0_init_39 : decode cX0_init 39 = .ok (.newarray .int, 2) := by decide +kernel
theorem dX0_init_41 : decode cX0_init 41 = .ok (.putfield 24, 3) := by decide +kernel
theorem dX0_init_44 : decode cX0_init 44 = .ok (.aload_n 0, 1) := by decide +kernel
theorem dX0_init_45 : decode cX0_init 45 = .ok (.iconst 0, 1) := by decide +kernel
theorem dX0_init_46 : decode cX0_init 46 = .ok (.putfield 27, 3) := by decide +kernel
theorem dX0_init_49 : decode cX0_init 49 = .ok (.return_, 1) := by decide +kernel
theorem dX0_copyFrom_0 : decode cX0_copyFrom 0 = .ok (.aload_n 1, 1) := by decide +kernel
theorem dX0_copyFrom_1 : decode cX0_copyFrom 1 = .ok (.getfield 9, 3) := by decide +kernel
theorem dX0_copyFrom_4 : decode cX0_copyFrom 4 = .ok (.aload_n 0, 1) := by decide +kernel
theorem dX0_copyFrom_5 : decode cX0_copyFrom 5 = .ok (.getfield 9, 3) := by decide +kernel
theorem dX0_copyFrom_8 : decode cX0_copyFrom 8 = .ok (.invokestatic 31, 3) := by decide +kernel
theorem dX0_copyFrom_11 : decode cX0_copyFrom 11 = .ok (.aload_n 1, 1) := by decide +kernel
theorem dX0_copyFrom_12 : decode cX0_copyFrom 12 = .ok (.getfield 15, 3) := by decide +kernel
theorem dX0_copyFrom_15 : decode cX0_copyFrom 15 = .ok (.aload_n 0, 1) := by decide +kernel
theorem dX0_copyFrom_16 : decode cX0_copyFrom 16 = .ok (.getfield 15, 3) := by decide +kernel
theorem dX0_copyFrom_19 : decode cX0_copyFrom 19 = .ok (.invokestatic 31, 3) := by decide +kernel
theorem dX0_copyFrom_22 : decode cX0_copyFrom 22 = .ok (.aload_n 1, 1) := by decide +kernel
theorem dX0_copyFrom_23 : decode cX0_copyFrom 23 = .ok (.getfield 18, 3) := by decide +kernel
theorem dX0_copyFrom_26 : decode cX0_copyFrom 26 = .ok (.aload_n 0, 1) := by decide +kernel
theorem dX0_copyFrom_27 : decode cX0_copyFrom 27 = .ok (.getfield 18, 3) := by decide +kernel
theorem dX0_copyFrom_30 : decode cX0_copyFrom 30 = .ok (.invokestatic 31, 3) := by decide +kernel
theorem dX0_copyFrom_33 : decode cX0_copyFrom 33 = .ok (.aload_n 1, 1) := by decide +kernel
theorem dX0_copyFrom_34 : decode cX0_copyFrom 34 = .ok (.getfield 21, 3) := by decide +kernel
theorem dX0_copyFrom_37 : decode cX0_copyFrom 37 = .ok (.aload_n 0, 1) := by decide +kernel
theorem dX0_copyFrom_38 : decode cX0_copyFrom 38 = .ok (.getfield 21, 3) := by decide +kernel
theorem dX0_copyFrom_41 : decode cX0_copyFrom 41 = .ok (.invokestatic 31, 3) := by decide +kernel
theorem dX0_copyFrom_44 : decode cX0_copyFrom 44 = .ok (.aload_n 0, 1) := by decide +kernel
theorem dX0_copyFrom_45 : decode cX0_copyFrom 45 = .ok (.aload_n 1, 1) := by decide +kernel
theorem dX0_copyFrom_46 : decode cX0_copyFrom 46 = .ok (.getfield 27, 3) := by decide +kernel
theorem dX0_copyFrom_49 : decode cX0_copyFrom 49 = .ok (.putfield 27, 3) := by decide +kernel
theorem dX0_copyFrom_52 : decode cX0_copyFrom 52 = .ok (.return_, 1) := by decide +kernel
theorem dX0_add_0 : decode cX0_add 0 = .ok (.aload_n 0, 1) := by decide +kernel
theorem dX0_add_1 : decode cX0_add 1 = .ok (.getfield 27, 3) := by decide +kernel
theorem dX0_add_4 : decode cX0_add 4 = .ok (.bipush 6, 2) := by decide +kernel
theorem dX0_add_6 : decode cX0_add 6 = .ok (.if_icmp .ge 53, 3) := by decide +kernel
theorem dX0_add_9 : decode cX0_add 9 = .ok (.aload_n 0, 1) := by decide +kernel
theorem dX0_add_10 : decode cX0_add 10 = .ok (.getfield 9, 3) := by decide +kernel
theorem dX0_add_13 : decode cX0_add 13 = .ok (.aload_n 0, 1) := by decide +kernel
theorem dX0_add_14 : decode cX0_add 14 = .ok (.getfield 27, 3) := by decide +kernel
theorem dX0_add_17 : decode cX0_add 17 = .ok (.iload_n 1, 1) := by decide +kernel
theorem dX0_add_18 : decode cX0_add 18 = .ok (.iastore, 1) := by decide +kernel
theorem dX0_add_19 : decode cX0_add 19 = .ok (.aload_n 0, 1) := by decide +kernel
theorem dX0_add_20 : decode cX0_add 20 = .ok (.getfield 15, 3) := by decide +kernel
theorem dX0_add_23 : decode cX0_add 23 = .ok (.aload_n 0, 1) := by decide +kernel
theorem dX0_add_24 : decode cX0_add 24 = .ok (.getfield 27, 3) := by decide +kernel
theorem dX0_add_27 : decode cX0_add 27 = .ok (.iload_n 2, 1) := by decide +kernel
theorem dX0_add_28 : decode cX0_add 28 = .ok (.iastore, 1) := by decide +kernel
theorem dX0_add_29 : decode cX0_add 29 = .ok (.aload_n 0, 1) := by decide +kernel
theorem dX0_add_30 : decode cX0_add 30 = .ok (.getfield 18, 3) := by decide +kernel
theorem dX0_add_33 : decode cX0_add 33 = .ok (.aload_n 0, 1) := by decide +kernel
theorem dX0_add_34 : decode cX0_add 34 = .ok (.getfield 27, 3) := by decide +kernel
theorem dX0_add_37 : decode cX0_add 37 = .ok (.iload_n 3, 1) := by decide +kernel
theorem dX0_add_38 : decode cX0_add 38 = .ok (.iastore, 1) := by decide +kernel
theorem dX0_add_39 : decode cX0_add 39 = .ok (.aload_n 0, 1) := by decide +kernel
theorem dX0_add_40 : decode cX0_add 40 = .ok (.getfield 21, 3) := by decide +kernel
theorem dX0_add_43 : decode cX0_add 43 = .ok (.aload_n 0, 1) := by decide +kernel
theorem dX0_add_44 : decode cX0_add 44 = .ok (.getfield 27, 3) := by decide +kernel
theorem dX0_add_47 : decode cX0_add 47 = .ok (.iconst 0, 1) := by decide +kernel
theorem dX0_add_48 : decode cX0_add 48 = .ok (.iastore, 1) := by decide +kernel
theorem dX0_add_49 : decode cX0_add 49 = .ok (.aload_n 0, 1) := by decide +kernel
theorem dX0_add_50 : decode cX0_add 50 = .ok (.dup, 1) := by decide +kernel
theorem dX0_add_51 : decode cX0_add 51 = .ok (.getfield 27, 3) := by decide +kernel
theorem dX0_add_54 : decode cX0_add 54 = .ok (.iconst 1, 1) := by decide +kernel
theorem dX0_add_55 : decode cX0_add 55 = .ok (.iadd, 1) := by decide +kernel
theorem dX0_add_56 : decode cX0_add 56 = .ok (.putfield 27, 3) := by decide +kernel
theorem dX0_add_59 : decode cX0_add 59 = .ok (.return_, 1) := by decide +kernel
theorem dX0_eat_0 : decode cX0_eat 0 = .ok (.iconst 0, 1) := by decide +kernel
theorem dX0_eat_1 : decode cX0_eat 1 = .ok (.istore_n 1, 1) := by decide +kernel
theorem dX0_eat_2 : decode cX0_eat 2 = .ok (.iload_n 1, 1) := by decide +kernel
theorem dX0_eat_3 : decode cX0_eat 3 = .ok (.aload_n 0, 1) := by decide +kernel
theorem dX0_eat_4 : decode cX0_eat 4 = .ok (.getfield 27, 3) := by decide +kernel
theorem dX0_eat_7 : decode cX0_eat 7 = .ok (.if_icmp .ge 68, 3) := by decide +kernel
theorem dX0_eat_10 : decode cX0_eat 10 = .ok (.aload_n 0, 1) := by decide +kernel
theorem dX0_eat_11 : decode cX0_eat 11 = .ok (.getfield 18, 3) := by decide +kernel
theorem dX0_eat_14 : decode cX0_eat 14 = .ok (.iload_n 1, 1) := by decide +kernel
theorem dX0_eat_15 : decode cX0_eat 15 = .ok (.iaload, 1) := by decide +kernel
theorem dX0_eat_16 : decode cX0_eat 16 = .ok (.aload_n 0, 1) := by decide +kernel
theorem dX0_eat_17 : decode cX0_eat 17 = .ok (.getfield 15, 3) := by decide +kernel
theorem dX0_eat_20 : decode cX0_eat 20 = .ok (.iload_n 1, 1) := by decide +kernel
theorem dX0_eat_21 : decode cX0_eat 21 = .ok (.iaload, 1) := by decide +kernel
theorem dX0_eat_22 : decode cX0_eat 22 = .ok (.if_icmp .lt 21, 3) := by decide +kernel
theorem dX0_eat_25 : decode cX0_eat 25 = .ok (.aload_n 0, 1) := by decide +kernel
theorem dX0_eat_26 : decode cX0_eat 26 = .ok (.getfield 18, 3) := by decide +kernel
theorem dX0_eat_29 : decode cX0_eat 29 = .ok (.iload_n 1, 1) := by decide +kernel
theorem dX0_eat_30 : decode cX0_eat 30 = .ok (.dup2, 1) := by decide +kernel
theorem dX0_eat_31 : decode cX0_eat 31 = .ok (.iaload, 1) := by decide +kernel
theorem dX0_eat_32 : decode cX0_eat 32 = .ok (.aload_n 0, 1) := by decide +kernel
theorem dX0_eat_33 : decode cX0_eat 33 = .ok (.getfield 15, 3) := by decide +kernel
theorem dX0_eat_36 : decode cX0_eat 36 = .ok (.iload_n 1, 1) := by decide +kernel
theorem dX0_eat_37 : decode cX0_eat 37 = .ok (.iaload, 1) := by decide +kernel
theorem dX0_eat_38 : decode cX0_eat 38 = .ok (.isub, 1) := by decide +kernel
theorem dX0_eat_39 : decode cX0_eat 39 = .ok (.iastore, 1) := by decide +kernel
theorem dX0_eat_40 : decode cX0_eat 40 = .ok (.goto 29, 3) := by decide +kernel
theorem dX0_eat_43 : decode cX0_eat 43 = .ok (.aload_n 0, 1) := by decide +kernel
theorem dX0_eat_44 : decode cX0_eat 44 = .ok (.getfield 18, 3) := by decide +kernel
theorem dX0_eat_47 : decode cX0_eat 47 = .ok (.iload_n 1, 1) := by decide +kernel
theorem dX0_eat_48 : decode cX0_eat 48 = .ok (.iconst 0, 1) := by decide +kernel
theorem dX0_eat_49 : decode cX0_eat 49 = .ok (.iastore, 1) := by decide +kernel
theorem dX0_eat_50 : decode cX0_eat 50 = .ok (.aload_n 0, 1) := by decide +kernel
theorem dX0_eat_51 : decode cX0_eat 51 = .ok (.getfield 21, 3) := by decide +kernel
theorem dX0_eat_54 : decode cX0_eat 54 = .ok (.iload_n 1, 1) := by decide +kernel
theorem dX0_eat_55 : decode cX0_eat 55 = .ok (.bipush 99, 2) := by decide +kernel
theorem dX0_eat_57 : decode cX0_eat 57 = .ok (.aload_n 0, 1) := by decide +kernel
theorem dX0_eat_58 : decode cX0_eat 58 = .ok (.getfield 21, 3) := by decide +kernel
theorem dX0_eat_61 : decode cX0_eat 61 = .ok (.iload_n 1, 1) := by decide +kernel
theorem dX0_eat_62 : decode cX0_eat 62 = .ok (.iaload, 1) := by decide +kernel
theorem dX0_eat_63 : decode cX0_eat 63 = .ok (.iconst 1, 1) := by decide +kernel
theorem dX0_eat_64 : decode cX0_eat 64 = .ok (.iadd, 1) := by decide +kernel
theorem dX0_eat_65 : decode cX0_eat 65 = .ok (.invokestatic 35, 3) := by decide +kernel
theorem dX0_eat_68 : decode cX0_eat 68 = .ok (.iastore, 1) := by decide +kernel
theorem dX0_eat_69 : decode cX0_eat 69 = .ok (.iinc 1 1, 3) := by decide +kernel
theorem dX0_eat_72 : decode cX0_eat 72 = .ok (.goto (-70), 3) := by decide +kernel
theorem dX0_eat_75 : decode cX0_eat 75 = .ok (.return_, 1) := by decide +kernel
theorem dX0_fill_0 : decode cX0_fill 0 = .ok (.aload_n 0, 1) := by decide +kernel
theorem dX0_fill_1 : decode cX0_fill 1 = .ok (.getfield 18, 3) := by decide +kernel
theorem dX0_fill_4 : decode cX0_fill 4 = .ok (.iload_n 1, 1) := by decide +kernel
theorem dX0_fill_5 : decode cX0_fill 5 = .ok (.sipush 999, 3) := by decide +kernel
theorem dX0_fill_8 : decode cX0_fill 8 = .ok (.aload_n 0, 1) := by decide +kernel
theorem dX0_fill_9 : decode cX0_fill 9 = .ok (.getfield 18, 3) := by decide +kernel
theorem dX0_fill_12 : decode cX0_fill 12 = .ok (.iload_n 1, 1) := by decide +kernel
theorem dX0_fill_13 : decode cX0_fill 13 = .ok (.invokestatic 41, 3) := by decide +kernel
theorem dX0_fill_16 : decode cX0_fill 16 = .ok (.iload_n 2, 1) := by decide +kernel
theorem dX0_fill_17 : decode cX0_fill 17 = .ok (.iadd, 1) := by decide +kernel
theorem dX0_fill_18 : decode cX0_fill 18 = .ok (.invokestatic 35, 3) := by decide +kernel
theorem dX0_fill_21 : decode cX0_fill 21 = .ok (.invokestatic 45, 3) := by decide +kernel
theorem dX0_fill_24 : decode cX0_fill 24 = .ok (.return_, 1) := by decide +kernel
theorem dX0_lasts_0 : decode cX0_lasts 0 = .ok (.aload_n 0, 1) := by decide +kernel
theorem dX0_lasts_1 : decode cX0_lasts 1 = .ok (.getfield 15, 3) := by decide +kernel
theorem dX0_lasts_4 : decode cX0_lasts 4 = .ok (.iload_n 1, 1) := by decide +kernel
theorem dX0_lasts_5 : decode cX0_lasts 5 = .ok (.invokestatic 41, 3) := by decide +kernel
theorem dX0_lasts_8 : decode cX0_lasts 8 = .ok (.istore_n 2, 1) := by decide +kernel
theorem dX0_lasts_9 : decode cX0_lasts 9 = .ok (.iload_n 2, 1) := by decide +kernel
theorem dX0_lasts_10 : decode cX0_lasts 10 = .ok (.ifCond .le 16, 3) := by decide +kernel
theorem dX0_lasts_13 : decode cX0_lasts 13 = .ok (.aload_n 0, 1) := by decide +kernel
theorem dX0_lasts_14 : decode cX0_lasts 14 = .ok (.getfield 21, 3) := by decide +kernel
theorem dX0_lasts_17 : decode cX0_lasts 17 = .ok (.iload_n 1, 1) := by decide +kernel
theorem dX0_lasts_18 : decode cX0_lasts 18 = .ok (.invokestatic 41, 3) := by decide +kernel
theorem dX0_lasts_21 : decode cX0_lasts 21 = .ok (.bipush 99, 2) := by decide +kernel
theorem dX0_lasts_23 : decode cX0_lasts 23 = .ok (.if_icmp .lt 5, 3) := by decide +kernel
theorem dX0_lasts_26 : decode cX0_lasts 26 = .ok (.iconst (-1), 1) := by decide +kernel
theorem dX0_lasts_27 : decode cX0_lasts 27 = .ok (.ireturn, 1) := by decide +kernel
theorem dX0_lasts_28 : decode cX0_lasts 28 = .ok (.aload_n 0, 1) := by decide +kernel
theorem dX0_lasts_29 : decode cX0_lasts 29 = .ok (.getfield 18, 3) := by decide +kernel
theorem dX0_lasts_32 : decode cX0_lasts 32 = .ok (.iload_n 1, 1) := by decide +kernel
theorem dX0_lasts_33 : decode cX0_lasts 33 = .ok (.invokestatic 41, 3) := by decide +kernel
theorem dX0_lasts_36 : decode cX0_lasts 36 = .ok (.iload_n 2, 1) := by decide +kernel
theorem dX0_lasts_37 : decode cX0_lasts 37 = .ok (.idiv, 1) := by decide +kernel
theorem dX0_lasts_38 : decode cX0_lasts 38 = .ok (.iconst 1, 1) := by decide +kernel
theorem dX0_lasts_39 : decode cX0_lasts 39 = .ok (.iadd, 1) := by decide +kernel
theorem dX0_lasts_40 : decode cX0_lasts 40 = .ok (.istore_n 3, 1) := by decide +kernel
theorem dX0_lasts_41 : decode cX0_lasts 41 = .ok (.iload_n 3, 1) := by decide +kernel
theorem dX0_lasts_42 : decode cX0_lasts 42 = .ok (.bipush 60, 2) := by decide +kernel
theorem dX0_lasts_44 : decode cX0_lasts 44 = .ok (.if_icmp .gt 7, 3) := by decide +kernel
theorem dX0_lasts_47 : decode cX0_lasts 47 = .ok (.iload_n 3, 1) := by decide +kernel
theorem dX0_lasts_48 : decode cX0_lasts 48 = .ok (.goto 4, 3) := by decide +kernel
theorem dX0_lasts_51 : decode cX0_lasts 51 = .ok (.iconst (-1), 1) := by decide +kernel
theorem dX0_lasts_52 : decode cX0_lasts 52 = .ok (.ireturn, 1) := by decide +kernel
theorem dX0_wantTogether_0 : decode cX0_wantTogether 0 = .ok (.iconst 0, 1) := by decide +kernel
theorem dX0_wantTogether_1 : decode cX0_wantTogether 1 = .ok (.istore_n 2, 1) := by decide +kernel
theorem dX0_wantTogether_2 : decode cX0_wantTogether 2 = .ok (.iconst 0, 1) := by decide +kernel
theorem dX0_wantTogether_3 : decode cX0_wantTogether 3 = .ok (.istore_n 3, 1) := by decide +kernel
theorem dX0_wantTogether_4 : decode cX0_wantTogether 4 = .ok (.iload_n 3, 1) := by decide +kernel
theorem dX0_wantTogether_5 : decode cX0_wantTogether 5 = .ok (.aload_n 0, 1) := by decide +kernel
theorem dX0_wantTogether_6 : decode cX0_wantTogether 6 = .ok (.getfield 27, 3) := by decide +kernel
theorem dX0_wantTogether_9 : decode cX0_wantTogether 9 = .ok (.if_icmp .ge 37, 3) := by decide +kernel
theorem dX0_wantTogether_12 : decode cX0_wantTogether 12 = .ok (.iload_n 1, 1) := by decide +kernel
theorem dX0_wantTogether_13 : decode cX0_wantTogether 13 = .ok (.iload_n 3, 1) := by decide +kernel
theorem dX0_wantTogether_14 : decode cX0_wantTogether 14 = .ok (.invokestatic 49, 3) := by decide +kernel
theorem dX0_wantTogether_17 : decode cX0_wantTogether 17 = .ok (.ifCond .eq 23, 3) := by decide +kernel
theorem dX0_wantTogether_20 : decode cX0_wantTogether 20 = .ok (.iload_n 2, 1) := by decide +kernel
theorem dX0_wantTogether_21 : decode cX0_wantTogether 21 = .ok (.iconst 0, 1) := by decide +kernel
theorem dX0_wantTogether_22 : decode cX0_wantTogether 22 = .ok (.aload_n 0, 1) := by decide +kernel
theorem dX0_wantTogether_23 : decode cX0_wantTogether 23 = .ok (.getfield 15, 3) := by decide +kernel
theorem dX0_wantTogether_26 : decode cX0_wantTogether 26 = .ok (.iload_n 3, 1) := by decide +kernel
theorem dX0_wantTogether_27 : decode cX0_wantTogether 27 = .ok (.iaload, 1) := by decide +kernel
theorem dX0_wantTogether_28 : decode cX0_wantTogether 28 = .ok (.aload_n 0, 1) := by decide +kernel
theorem dX0_wantTogether_29 : decode cX0_wantTogether 29 = .ok (.getfield 18, 3) := by decide +kernel
theorem dX0_wantTogether_32 : decode cX0_wantTogether 32 = .ok (.iload_n 3, 1) := by decide +kernel
theorem dX0_wantTogether_33 : decode cX0_wantTogether 33 = .ok (.iaload, 1) := by decide +kernel
theorem dX0_wantTogether_34 : decode cX0_wantTogether 34 = .ok (.isub, 1) := by decide +kernel
theorem dX0_wantTogether_35 : decode cX0_wantTogether 35 = .ok (.invokestatic 53, 3) := by decide +kernel
theorem dX0_wantTogether_38 : decode cX0_wantTogether 38 = .ok (.iadd, 1) := by decide +kernel
theorem dX0_wantTogether_39 : decode cX0_wantTogether 39 = .ok (.istore_n 2, 1) := by decide +kernel
theorem dX0_wantTogether_40 : decode cX0_wantTogether 40 = .ok (.iinc 3 1, 3) := by decide +kernel
theorem dX0_wantTogether_43 : decode cX0_wantTogether 43 = .ok (.goto (-39), 3) := by decide +kernel
theorem dX0_wantTogether_46 : decode cX0_wantTogether 46 = .ok (.iload_n 2, 1) := by decide +kernel
theorem dX0_wantTogether_47 : decode cX0_wantTogether 47 = .ok (.ireturn, 1) := by decide +kernel
theorem dX0_shareOut_0 : decode cX0_shareOut 0 = .ok (.iconst 0, 1) := by decide +kernel
theorem dX0_shareOut_1 : decode cX0_shareOut 1 = .ok (.istore_n 3, 1) := by decide +kernel
theorem dX0_shareOut_2 : decode cX0_shareOut 2 = .ok (.iload_n 3, 1) := by decide +kernel
theorem dX0_shareOut_3 : decode cX0_shareOut 3 = .ok (.aload_n 0, 1) := by decide +kernel
theorem dX0_shareOut_4 : decode cX0_shareOut 4 = .ok (.getfield 27, 3) := by decide +kernel
theorem dX0_shareOut_7 : decode cX0_shareOut 7 = .ok (.if_icmp .ge 16, 3) := by decide +kernel
theorem dX0_shareOut_10 : decode cX0_shareOut 10 = .ok (.aload_n 0, 1) := by decide +kernel
theorem dX0_shareOut_11 : decode cX0_shareOut 11 = .ok (.getfield 24, 3) := by decide +kernel
theorem dX0_shareOut_14 : decode cX0_shareOut 14 = .ok (.iload_n 3, 1) := by decide +kernel
theorem dX0_shareOut_15 : decode cX0_shareOut 15 = .ok (.iconst 0, 1) := by decide +kernel
theorem dX0_shareOut_16 : decode cX0_shareOut 16 = .ok (.iastore, 1) := by decide +kernel
theorem dX0_shareOut_17 : decode cX0_shareOut 17 = .ok (.iinc 3 1, 3) := by decide +kernel
theorem dX0_shareOut_20 : decode cX0_shareOut 20 = .ok (.goto (-18), 3) := by decide +kernel
theorem dX0_shareOut_23 : decode cX0_shareOut 23 = .ok (.iconst 0, 1) := by decide +kernel
theorem dX0_shareOut_24 : decode cX0_shareOut 24 = .ok (.istore_n 3, 1) := by decide +kernel
theorem dX0_shareOut_25 : decode cX0_shareOut 25 = .ok (.iload_n 3, 1) := by decide +kernel
theorem dX0_shareOut_26 : decode cX0_shareOut 26 = .ok (.iload_n 2, 1) := by decide +kernel
theorem dX0_shareOut_27 : decode cX0_shareOut 27 = .ok (.if_icmp .ge 96, 3) := by decide +kernel
theorem dX0_shareOut_30 : decode cX0_shareOut 30 = .ok (.iconst (-1), 1) := by decide +kernel
theorem dX0_shareOut_31 : decode cX0_shareOut 31 = .ok (.istore 4, 2) := by decide +kernel
theorem dX0_shareOut_33 : decode cX0_shareOut 33 = .ok (.iconst 0, 1) := by decide +kernel
theorem dX0_shareOut_34 : decode cX0_shareOut 34 = .ok (.istore 5, 2) := by decide +kernel
theorem dX0_shareOut_36 : decode cX0_shareOut 36 = .ok (.iload 5, 2) := by decide +kernel
theorem dX0_shareOut_38 : decode cX0_shareOut 38 = .ok (.aload_n 0, 1) := by decide +kernel
theorem dX0_shareOut_39 : decode cX0_shareOut 39 = .ok (.getfield 27, 3) := by decide +kernel
theorem dX0_shareOut_42 : decode cX0_shareOut 42 = .ok (.if_icmp .ge 55, 3) := by decide +kernel
theorem dX0_shareOut_45 : decode cX0_shareOut 45 = .ok (.aload_n 0, 1) := by decide +kernel
theorem dX0_shareOut_46 : decode cX0_shareOut 46 = .ok (.getfield 24, 3) := by decide +kernel
theorem dX0_shareOut_49 : decode cX0_shareOut 49 = .ok (.iload 5, 2) := by decide +kernel
theorem dX0_shareOut_51 : decode cX0_shareOut 51 = .ok (.iaload, 1) := by decide +kernel
theorem dX0_shareOut_52 : decode cX0_shareOut 52 = .ok (.aload_n 0, 1) := by decide +kernel
theorem dX0_shareOut_53 : decode cX0_shareOut 53 = .ok (.getfield 15, 3) := by decide +kernel
theorem dX0_shareOut_56 : decode cX0_shareOut 56 = .ok (.iload 5, 2) := by decide +kernel
theorem dX0_shareOut_58 : decode cX0_shareOut 58 = .ok (.iaload, 1) := by decide +kernel
theorem dX0_shareOut_59 : decode cX0_shareOut 59 = .ok (.if_icmp .ge 32, 3) := by decide +kernel
theorem dX0_shareOut_62 : decode cX0_shareOut 62 = .ok (.iload 4, 2) := by decide +kernel
theorem dX0_shareOut_64 : decode cX0_shareOut 64 = .ok (.iconst (-1), 1) := by decide +kernel
theorem dX0_shareOut_65 : decode cX0_shareOut 65 = .ok (.if_icmp .eq 22, 3) := by decide +kernel
theorem dX0_shareOut_68 : decode cX0_shareOut 68 = .ok (.aload_n 0, 1) := by decide +kernel
theorem dX0_shareOut_69 : decode cX0_shareOut 69 = .ok (.getfield 24, 3) := by decide +kernel
theorem dX0_shareOut_72 : decode cX0_shareOut 72 = .ok (.iload 5, 2) := by decide +kernel
theorem dX0_shareOut_74 : decode cX0_shareOut 74 = .ok (.iaload, 1) := by decide +kernel
theorem dX0_shareOut_75 : decode cX0_shareOut 75 = .ok (.aload_n 0, 1) := by decide +kernel
theorem dX0_shareOut_76 : decode cX0_shareOut 76 = .ok (.getfield 24, 3) := by decide +kernel
theorem dX0_shareOut_79 : decode cX0_shareOut 79 = .ok (.iload 4, 2) := by decide +kernel
theorem dX0_shareOut_81 : decode cX0_shareOut 81 = .ok (.invokestatic 41, 3) := by decide +kernel
theorem dX0_shareOut_84 : decode cX0_shareOut 84 = .ok (.if_icmp .ge 7, 3) := by decide +kernel
theorem dX0_shareOut_87 : decode cX0_shareOut 87 = .ok (.iload 5, 2) := by decide +kernel
theorem dX0_shareOut_89 : decode cX0_shareOut 89 = .ok (.istore 4, 2) := by decide +kernel
theorem dX0_shareOut_91 : decode cX0_shareOut 91 = .ok (.iinc 5 1, 3) := by decide +kernel
theorem dX0_shareOut_94 : decode cX0_shareOut 94 = .ok (.goto (-58), 3) := by decide +kernel
theorem dX0_shareOut_97 : decode cX0_shareOut 97 = .ok (.aload_n 0, 1) := by decide +kernel
theorem dX0_shareOut_98 : decode cX0_shareOut 98 = .ok (.getfield 24, 3) := by decide +kernel
theorem dX0_shareOut_101 : decode cX0_shareOut 101 = .ok (.iload 4, 2) := by decide +kernel
theorem dX0_shareOut_103 : decode cX0_shareOut 103 = .ok (.aload_n 0, 1) := by decide +kernel
theorem dX0_shareOut_104 : decode cX0_shareOut 104 = .ok (.getfield 24, 3) := by decide +kernel
theorem dX0_shareOut_107 : decode cX0_shareOut 107 = .ok (.iload 4, 2) := by decide +kernel
theorem dX0_shareOut_109 : decode cX0_shareOut 109 = .ok (.invokestatic 41, 3) := by decide +kernel
theorem dX0_shareOut_112 : decode cX0_shareOut 112 = .ok (.iconst 1, 1) := by decide +kernel
theorem dX0_shareOut_113 : decode cX0_shareOut 113 = .ok (.iadd, 1) := by decide +kernel
theorem dX0_shareOut_114 : decode cX0_shareOut 114 = .ok (.invokestatic 45, 3) := by decide +kernel
theorem dX0_shareOut_117 : decode cX0_shareOut 117 = .ok (.iinc 3 1, 3) := by decide +kernel
theorem dX0_shareOut_120 : decode cX0_shareOut 120 = .ok (.goto (-95), 3) := by decide +kernel
theorem dX0_shareOut_123 : decode cX0_shareOut 123 = .ok (.aload_n 0, 1) := by decide +kernel
theorem dX0_shareOut_124 : decode cX0_shareOut 124 = .ok (.getfield 24, 3) := by decide +kernel
theorem dX0_shareOut_127 : decode cX0_shareOut 127 = .ok (.iload_n 1, 1) := by decide +kernel
theorem dX0_shareOut_128 : decode cX0_shareOut 128 = .ok (.invokestatic 41, 3) := by decide +kernel
theorem dX0_shareOut_131 : decode cX0_shareOut 131 = .ok (.ireturn, 1) := by decide +kernel
theorem dX0_likes_0 : decode cX0_likes 0 = .ok (.aload_n 0, 1) := by decide +kernel
theorem dX0_likes_1 : decode cX0_likes 1 = .ok (.iload_n 1, 1) := by decide +kernel
theorem dX0_likes_2 : decode cX0_likes 2 = .ok (.aload_n 0, 1) := by decide +kernel
theorem dX0_likes_3 : decode cX0_likes 3 = .ok (.getfield 18, 3) := by decide +kernel
theorem dX0_likes_6 : decode cX0_likes 6 = .ok (.iload_n 2, 1) := by decide +kernel
theorem dX0_likes_7 : decode cX0_likes 7 = .ok (.invokestatic 41, 3) := by decide +kernel
theorem dX0_likes_10 : decode cX0_likes 10 = .ok (.invokevirtual 56, 3) := by decide +kernel
theorem dX0_likes_13 : decode cX0_likes 13 = .ok (.aload_n 0, 1) := by decide +kernel
theorem dX0_likes_14 : decode cX0_likes 14 = .ok (.iload_n 1, 1) := by decide +kernel
theorem dX0_likes_15 : decode cX0_likes 15 = .ok (.aload_n 0, 1) := by decide +kernel
theorem dX0_likes_16 : decode cX0_likes 16 = .ok (.getfield 18, 3) := by decide +kernel
theorem dX0_likes_19 : decode cX0_likes 19 = .ok (.iload_n 1, 1) := by decide +kernel
theorem dX0_likes_20 : decode cX0_likes 20 = .ok (.invokestatic 41, 3) := by decide +kernel
theorem dX0_likes_23 : decode cX0_likes 23 = .ok (.invokevirtual 56, 3) := by decide +kernel
theorem dX0_likes_26 : decode cX0_likes 26 = .ok (.if_icmp .le 7, 3) := by decide +kernel
theorem dX0_likes_29 : decode cX0_likes 29 = .ok (.iconst 1, 1) := by decide +kernel
theorem dX0_likes_30 : decode cX0_likes 30 = .ok (.goto 4, 3) := by decide +kernel
theorem dX0_likes_33 : decode cX0_likes 33 = .ok (.iconst 0, 1) := by decide +kernel
theorem dX0_likes_34 : decode cX0_likes 34 = .ok (.ireturn, 1) := by decide +kernel
theorem dX0_worth_0 : decode cX0_worth 0 = .ok (.iload_n 2, 1) := by decide +kernel
theorem dX0_worth_1 : decode cX0_worth 1 = .ok (.iconst 2, 1) := by decide +kernel
theorem dX0_worth_2 : decode cX0_worth 2 = .ok (.iconst 0, 1) := by decide +kernel
theorem dX0_worth_3 : decode cX0_worth 3 = .ok (.iload_n 2, 1) := by decide +kernel
theorem dX0_worth_4 : decode cX0_worth 4 = .ok (.iconst 3, 1) := by decide +kernel
theorem dX0_worth_5 : decode cX0_worth 5 = .ok (.aload_n 0, 1) := by decide +kernel
theorem dX0_worth_6 : decode cX0_worth 6 = .ok (.getfield 15, 3) := by decide +kernel
theorem dX0_worth_9 : decode cX0_worth 9 = .ok (.iload_n 1, 1) := by decide +kernel
theorem dX0_worth_10 : decode cX0_worth 10 = .ok (.invokestatic 41, 3) := by decide +kernel
theorem dX0_worth_13 : decode cX0_worth 13 = .ok (.imul, 1) := by decide +kernel
theorem dX0_worth_14 : decode cX0_worth 14 = .ok (.isub, 1) := by decide +kernel
theorem dX0_worth_15 : decode cX0_worth 15 = .ok (.invokestatic 53, 3) := by decide +kernel
theorem dX0_worth_18 : decode cX0_worth 18 = .ok (.imul, 1) := by decide +kernel
theorem dX0_worth_19 : decode cX0_worth 19 = .ok (.isub, 1) := by decide +kernel
theorem dX0_worth_20 : decode cX0_worth 20 = .ok (.ireturn, 1) := by decide +kernel
theorem dX0_allLarders_0 : decode cX0_allLarders 0 = .ok (.iconst 0, 1) := by decide +kernel
theorem dX0_allLarders_1 : decode cX0_allLarders 1 = .ok (.istore_n 1, 1) := by decide +kernel
theorem dX0_allLarders_2 : decode cX0_allLarders 2 = .ok (.iconst 0, 1) := by decide +kernel
theorem dX0_allLarders_3 : decode cX0_allLarders 3 = .ok (.istore_n 2, 1) := by decide +kernel
theorem dX0_allLarders_4 : decode cX0_allLarders 4 = .ok (.iload_n 2, 1) := by decide +kernel
theorem dX0_allLarders_5 : decode cX0_allLarders 5 = .ok (.aload_n 0, 1) := by decide +kernel
theorem dX0_allLarders_6 : decode cX0_allLarders 6 = .ok (.getfield 27, 3) := by decide +kernel
theorem dX0_allLarders_9 : decode cX0_allLarders 9 = .ok (.if_icmp .ge 18, 3) := by decide +kernel
theorem dX0_allLarders_12 : decode cX0_allLarders 12 = .ok (.iload_n 1, 1) := by decide +kernel
theorem dX0_allLarders_13 : decode cX0_allLarders 13 = .ok (.aload_n 0, 1) := by decide +kernel
theorem dX0_allLarders_14 : decode cX0_allLarders 14 = .ok (.getfield 18, 3) := by decide +kernel
theorem dX0_allLarders_17 : decode cX0_allLarders 17 = .ok (.iload_n 2, 1) := by decide +kernel
theorem dX0_allLarders_18 : decode cX0_allLarders 18 = .ok (.iaload, 1) := by decide +kernel
theorem dX0_allLarders_19 : decode cX0_allLarders 19 = .ok (.iadd, 1) := by decide +kernel
theorem dX0_allLarders_20 : decode cX0_allLarders 20 = .ok (.istore_n 1, 1) := by decide +kernel
theorem dX0_allLarders_21 : decode cX0_allLarders 21 = .ok (.iinc 2 1, 3) := by decide +kernel
theorem dX0_allLarders_24 : decode cX0_allLarders 24 = .ok (.goto (-20), 3) := by decide +kernel
theorem dX0_allLarders_27 : decode cX0_allLarders 27 = .ok (.iload_n 1, 1) := by decide +kernel
theorem dX0_allLarders_28 : decode cX0_allLarders 28 = .ok (.ireturn, 1) := by decide +kernel
theorem dX1_init_0 : decode cX1_init 0 = .ok (.aload_n 0, 1) := by decide +kernel
theorem dX1_init_1 : decode cX1_init 1 = .ok (.invokespecial 3, 3) := by decide +kernel
theorem dX1_init_4 : decode cX1_init 4 = .ok (.aload_n 0, 1) := by decide +kernel
theorem dX1_init_5 : decode cX1_init 5 = .ok (.bipush 10, 2) := by decide +kernel
theorem dX1_init_7 : decode cX1_init 7 = .ok (.newarray .int, 2) := by decide +kernel
theorem dX1_init_9 : decode cX1_init 9 = .ok (.putfield 9, 3) := by decide +kernel
theorem dX1_init_12 : decode cX1_init 12 = .ok (.aload_n 0, 1) := by decide +kernel
theorem dX1_init_13 : decode cX1_init 13 = .ok (.bipush 10, 2) := by decide +kernel
theorem dX1_init_15 : decode cX1_init 15 = .ok (.newarray .int, 2) := by decide +kernel
theorem dX1_init_17 : decode cX1_init 17 = .ok (.putfield 15, 3) := by decide +kernel
theorem dX1_init_20 : decode cX1_init 20 = .ok (.aload_n 0, 1) := by decide +kernel
theorem dX1_init_21 : decode cX1_init 21 = .ok (.bipush 10, 2) := by decide +kernel
theorem dX1_init_23 : decode cX1_init 23 = .ok (.newarray .int, 2) := by decide +kernel
theorem dX1_init_25 : decode cX1_init 25 = .ok (.putfield 18, 3) := by decide +kernel
theorem dX1_init_28 : decode cX1_init 28 = .ok (.aload_n 0, 1) := by decide +kernel
theorem dX1_init_29 : decode cX1_init 29 = .ok (.bipush 10, 2) := by decide +kernel
theorem dX1_init_31 : decode cX1_init 31 = .ok (.newarray .int, 2) := by decide +kernel
theorem dX1_init_33 : decode cX1_init 33 = .ok (.putfield 21, 3) := by decide +kernel
theorem dX1_init_36 : decode cX1_init 36 = .ok (.aload_n 0, 1) := by decide +kernel
theorem dX1_init_37 : decode cX1_init 37 = .ok (.bipush 10, 2) := by decide +kernel
theorem dX1_init_39 : decode cX1_init 39 = .ok (.newarray .int, 2) := by decide +kernel
theorem dX1_init_41 : decode cX1_init 41 = .ok (.putfield 24, 3) := by decide +kernel
theorem dX1_init_44 : decode cX1_init 44 = .ok (.aload_n 0, 1) := by decide +kernel
theorem dX1_init_45 : decode cX1_init 45 = .ok (.bipush 10, 2) := by decide +kernel
theorem dX1_init_47 : decode cX1_init 47 = .ok (.newarray .boolean, 2) := by decide +kernel
theorem dX1_init_49 : decode cX1_init 49 = .ok (.putfield 27, 3) := by decide +kernel
theorem dX1_init_52 : decode cX1_init 52 = .ok (.aload_n 0, 1) := by decide +kernel
theorem dX1_init_53 : decode cX1_init 53 = .ok (.bipush 10, 2) := by decide +kernel
theorem dX1_init_55 : decode cX1_init 55 = .ok (.newarray .boolean, 2) := by decide +kernel
theorem dX1_init_57 : decode cX1_init 57 = .ok (.putfield 31, 3) := by decide +kernel
theorem dX1_init_60 : decode cX1_init 60 = .ok (.aload_n 0, 1) := by decide +kernel
theorem dX1_init_61 : decode cX1_init 61 = .ok (.iconst 0, 1) := by decide +kernel
theorem dX1_init_62 : decode cX1_init 62 = .ok (.putfield 34, 3) := by decide +kernel
theorem dX1_init_65 : decode cX1_init 65 = .ok (.return_, 1) := by decide +kernel
theorem dX1_copyFrom_0 : decode cX1_copyFrom 0 = .ok (.aload_n 1, 1) := by decide +kernel
theorem dX1_copyFrom_1 : decode cX1_copyFrom 1 = .ok (.getfield 9, 3) := by decide +kernel
theorem dX1_copyFrom_4 : decode cX1_copyFrom 4 = .ok (.aload_n 0, 1) := by decide +kernel
theorem dX1_copyFrom_5 : decode cX1_copyFrom 5 = .ok (.getfield 9, 3) := by decide +kernel
theorem dX1_copyFrom_8 : decode cX1_copyFrom 8 = .ok (.invokestatic 38, 3) := by decide +kernel
theorem dX1_copyFrom_11 : decode cX1_copyFrom 11 = .ok (.aload_n 1, 1) := by decide +kernel
theorem dX1_copyFrom_12 : decode cX1_copyFrom 12 = .ok (.getfield 15, 3) := by decide +kernel
theorem dX1_copyFrom_15 : decode cX1_copyFrom 15 = .ok (.aload_n 0, 1) := by decide +kernel
theorem dX1_copyFrom_16 : decode cX1_copyFrom 16 = .ok (.getfield 15, 3) := by decide +kernel
theorem dX1_copyFrom_19 : decode cX1_copyFrom 19 = .ok (.invokestatic 38, 3) := by decide +kernel
theorem dX1_copyFrom_22 : decode cX1_copyFrom 22 = .ok (.aload_n 1, 1) := by decide +kernel
theorem dX1_copyFrom_23 : decode cX1_copyFrom 23 = .ok (.getfield 18, 3) := by decide +kernel
theorem dX1_copyFrom_26 : decode cX1_copyFrom 26 = .ok (.aload_n 0, 1) := by decide +kernel
theorem dX1_copyFrom_27 : decode cX1_copyFrom 27 = .ok (.getfield 18, 3) := by decide +kernel
theorem dX1_copyFrom_30 : decode cX1_copyFrom 30 = .ok (.invokestatic 38, 3) := by decide +kernel
theorem dX1_copyFrom_33 : decode cX1_copyFrom 33 = .ok (.aload_n 1, 1) := by decide +kernel
theorem dX1_copyFrom_34 : decode cX1_copyFrom 34 = .ok (.getfield 21, 3) := by decide +kernel
theorem dX1_copyFrom_37 : decode cX1_copyFrom 37 = .ok (.aload_n 0, 1) := by decide +kernel
theorem dX1_copyFrom_38 : decode cX1_copyFrom 38 = .ok (.getfield 21, 3) := by decide +kernel
theorem dX1_copyFrom_41 : decode cX1_copyFrom 41 = .ok (.invokestatic 38, 3) := by decide +kernel
theorem dX1_copyFrom_44 : decode cX1_copyFrom 44 = .ok (.aload_n 1, 1) := by decide +kernel
theorem dX1_copyFrom_45 : decode cX1_copyFrom 45 = .ok (.getfield 24, 3) := by decide +kernel
theorem dX1_copyFrom_48 : decode cX1_copyFrom 48 = .ok (.aload_n 0, 1) := by decide +kernel
theorem dX1_copyFrom_49 : decode cX1_copyFrom 49 = .ok (.getfield 24, 3) := by decide +kernel
theorem dX1_copyFrom_52 : decode cX1_copyFrom 52 = .ok (.invokestatic 38, 3) := by decide +kernel
theorem dX1_copyFrom_55 : decode cX1_copyFrom 55 = .ok (.iconst 0, 1) := by decide +kernel
theorem dX1_copyFrom_56 : decode cX1_copyFrom 56 = .ok (.istore_n 2, 1) := by decide +kernel
theorem dX1_copyFrom_57 : decode cX1_copyFrom 57 = .ok (.iload_n 2, 1) := by decide +kernel
theorem dX1_copyFrom_58 : decode cX1_copyFrom 58 = .ok (.bipush 10, 2) := by decide +kernel
theorem dX1_copyFrom_60 : decode cX1_copyFrom 60 = .ok (.if_icmp .ge 33, 3) := by decide +kernel
theorem dX1_copyFrom_63 : decode cX1_copyFrom 63 = .ok (.aload_n 0, 1) := by decide +kernel
theorem dX1_copyFrom_64 : decode cX1_copyFrom 64 = .ok (.getfield 27, 3) := by decide +kernel
theorem dX1_copyFrom_67 : decode cX1_copyFrom 67 = .ok (.iload_n 2, 1) := by decide +kernel
theorem dX1_copyFrom_68 : decode cX1_copyFrom 68 = .ok (.aload_n 1, 1) := by decide +kernel
theorem dX1_copyFrom_69 : decode cX1_copyFrom 69 = .ok (.getfield 27, 3) := by decide +kernel
theorem dX1_copyFrom_72 : decode cX1_copyFrom 72 = .ok (.iload_n 2, 1) := by decide +kernel
theorem dX1_copyFrom_73 : decode cX1_copyFrom 73 = .ok (.baload, 1) := by decide +kernel
theorem dX1_copyFrom_74 : decode cX1_copyFrom 74 = .ok (.bastore, 1) := by decide +kernel
theorem dX1_copyFrom_75 : decode cX1_copyFrom 75 = .ok (.aload_n 0, 1) := by decide +kernel
theorem dX1_copyFrom_76 : decode cX1_copyFrom 76 = .ok (.getfield 31, 3) := by decide +kernel
theorem dX1_copyFrom_79 : decode cX1_copyFrom 79 = .ok (.iload_n 2, 1) := by decide +kernel
theorem dX1_copyFrom_80 : decode cX1_copyFrom 80 = .ok (.aload_n 1, 1) := by decide +kernel
theorem dX1_copyFrom_81 : decode cX1_copyFrom 81 = .ok (.getfield 31, 3) := by decide +kernel
theorem dX1_copyFrom_84 : decode cX1_copyFrom 84 = .ok (.iload_n 2, 1) := by decide +kernel
theorem dX1_copyFrom_85 : decode cX1_copyFrom 85 = .ok (.baload, 1) := by decide +kernel
theorem dX1_copyFrom_86 : decode cX1_copyFrom 86 = .ok (.bastore, 1) := by decide +kernel
theorem dX1_copyFrom_87 : decode cX1_copyFrom 87 = .ok (.iinc 2 1, 3) := by decide +kernel
theorem dX1_copyFrom_90 : decode cX1_copyFrom 90 = .ok (.goto (-33), 3) := by decide +kernel
theorem dX1_copyFrom_93 : decode cX1_copyFrom 93 = .ok (.aload_n 0, 1) := by decide +kernel
theorem dX1_copyFrom_94 : decode cX1_copyFrom 94 = .ok (.aload_n 1, 1) := by decide +kernel
theorem dX1_copyFrom_95 : decode cX1_copyFrom 95 = .ok (.getfield 34, 3) := by decide +kernel
theorem dX1_copyFrom_98 : decode cX1_copyFrom 98 = .ok (.putfield 34, 3) := by decide +kernel
theorem dX1_copyFrom_101 : decode cX1_copyFrom 101 = .ok (.return_, 1) := by decide +kernel
theorem dX1_add_0 : decode cX1_add 0 = .ok (.aload_n 0, 1) := by decide +kernel
theorem dX1_add_1 : decode cX1_add 1 = .ok (.getfield 34, 3) := by decide +kernel
theorem dX1_add_4 : decode cX1_add 4 = .ok (.bipush 10, 2) := by decide +kernel
theorem dX1_add_6 : decode cX1_add 6 = .ok (.if_icmp .lt 5, 3) := by decide +kernel
theorem dX1_add_9 : decode cX1_add 9 = .ok (.iconst (-1), 1) := by decide +kernel
theorem dX1_add_10 : decode cX1_add 10 = .ok (.ireturn, 1) := by decide +kernel
theorem dX1_add_11 : decode cX1_add 11 = .ok (.aload_n 0, 1) := by decide +kernel
theorem dX1_add_12 : decode cX1_add 12 = .ok (.getfield 9, 3) := by decide +kernel
theorem dX1_add_15 : decode cX1_add 15 = .ok (.aload_n 0, 1) := by decide +kernel
theorem dX1_add_16 : decode cX1_add 16 = .ok (.getfield 34, 3) := by decide +kernel
theorem dX1_add_19 : decode cX1_add 19 = .ok (.iload_n 1, 1) := by decide +kernel
theorem dX1_add_20 : decode cX1_add 20 = .ok (.iastore, 1) := by decide +kernel
theorem dX1_add_21 : decode cX1_add 21 = .ok (.aload_n 0, 1) := by decide +kernel
theorem dX1_add_22 : decode cX1_add 22 = .ok (.getfield 15, 3) := by decide +kernel
theorem dX1_add_25 : decode cX1_add 25 = .ok (.aload_n 0, 1) := by decide +kernel
theorem dX1_add_26 : decode cX1_add 26 = .ok (.getfield 34, 3) := by decide +kernel
theorem dX1_add_29 : decode cX1_add 29 = .ok (.iload_n 2, 1) := by decide +kernel
theorem dX1_add_30 : decode cX1_add 30 = .ok (.iastore, 1) := by decide +kernel
theorem dX1_add_31 : decode cX1_add 31 = .ok (.aload_n 0, 1) := by decide +kernel
theorem dX1_add_32 : decode cX1_add 32 = .ok (.getfield 18, 3) := by decide +kernel
theorem dX1_add_35 : decode cX1_add 35 = .ok (.aload_n 0, 1) := by decide +kernel
theorem dX1_add_36 : decode cX1_add 36 = .ok (.getfield 34, 3) := by decide +kernel
theorem dX1_add_39 : decode cX1_add 39 = .ok (.iload_n 3, 1) := by decide +kernel
theorem dX1_add_40 : decode cX1_add 40 = .ok (.iastore, 1) := by decide +kernel
theorem dX1_add_41 : decode cX1_add 41 = .ok (.aload_n 0, 1) := by decide +kernel
theorem dX1_add_42 : decode cX1_add 42 = .ok (.getfield 21, 3) := by decide +kernel
theorem dX1_add_45 : decode cX1_add 45 = .ok (.aload_n 0, 1) := by decide +kernel
theorem dX1_add_46 : decode cX1_add 46 = .ok (.getfield 34, 3) := by decide +kernel
theorem dX1_add_49 : decode cX1_add 49 = .ok (.iconst 0, 1) := by decide +kernel
theorem dX1_add_50 : decode cX1_add 50 = .ok (.iastore, 1) := by decide +kernel
theorem dX1_add_51 : decode cX1_add 51 = .ok (.aload_n 0, 1) := by decide +kernel
theorem dX1_add_52 : decode cX1_add 52 = .ok (.getfield 24, 3) := by decide +kernel
theorem dX1_add_55 : decode cX1_add 55 = .ok (.aload_n 0, 1) := by decide +kernel
theorem dX1_add_56 : decode cX1_add 56 = .ok (.getfield 34, 3) := by decide +kernel
theorem dX1_add_59 : decode cX1_add 59 = .ok (.iload 4, 2) := by decide +kernel
theorem dX1_add_61 : decode cX1_add 61 = .ok (.iastore, 1) := by decide +kernel
theorem dX1_add_62 : decode cX1_add 62 = .ok (.aload_n 0, 1) := by decide +kernel
theorem dX1_add_63 : decode cX1_add 63 = .ok (.getfield 27, 3) := by decide +kernel
theorem dX1_add_66 : decode cX1_add 66 = .ok (.aload_n 0, 1) := by decide +kernel
theorem dX1_add_67 : decode cX1_add 67 = .ok (.getfield 34, 3) := by decide +kernel
theorem dX1_add_70 : decode cX1_add 70 = .ok (.iconst 0, 1) := by decide +kernel
theorem dX1_add_71 : decode cX1_add 71 = .ok (.bastore, 1) := by decide +kernel
theorem dX1_add_72 : decode cX1_add 72 = .ok (.aload_n 0, 1) := by decide +kernel
theorem dX1_add_73 : decode cX1_add 73 = .ok (.getfield 31, 3) := by decide +kernel
theorem dX1_add_76 : decode cX1_add 76 = .ok (.aload_n 0, 1) := by decide +kernel
theorem dX1_add_77 : decode cX1_add 77 = .ok (.getfield 34, 3) := by decide +kernel
theorem dX1_add_80 : decode cX1_add 80 = .ok (.iconst 0, 1) := by decide +kernel
theorem dX1_add_81 : decode cX1_add 81 = .ok (.bastore, 1) := by decide +kernel
theorem dX1_add_82 : decode cX1_add 82 = .ok (.aload_n 0, 1) := by decide +kernel
theorem dX1_add_83 : decode cX1_add 83 = .ok (.dup, 1) := by decide +kernel
theorem dX1_add_84 : decode cX1_add 84 = .ok (.getfield 34, 3) := by decide +kernel
theorem dX1_add_87 : decode cX1_add 87 = .ok (.iconst 1, 1) := by decide +kernel
theorem dX1_add_88 : decode cX1_add 88 = .ok (.iadd, 1) := by decide +kernel
theorem dX1_add_89 : decode cX1_add 89 = .ok (.putfield 34, 3) := by decide +kernel
theorem dX1_add_92 : decode cX1_add 92 = .ok (.aload_n 0, 1) := by decide +kernel
theorem dX1_add_93 : decode cX1_add 93 = .ok (.getfield 34, 3) := by decide +kernel
theorem dX1_add_96 : decode cX1_add 96 = .ok (.iconst 1, 1) := by decide +kernel
theorem dX1_add_97 : decode cX1_add 97 = .ok (.isub, 1) := by decide +kernel
theorem dX1_add_98 : decode cX1_add 98 = .ok (.ireturn, 1) := by decide +kernel
theorem dX1_offend_0 : decode cX1_offend 0 = .ok (.aload_n 0, 1) := by decide +kernel
theorem dX1_offend_1 : decode cX1_offend 1 = .ok (.getfield 18, 3) := by decide +kernel
theorem dX1_offend_4 : decode cX1_offend 4 = .ok (.iload_n 1, 1) := by decide +kernel
theorem dX1_offend_5 : decode cX1_offend 5 = .ok (.iload_n 2, 1) := by decide +kernel
theorem dX1_offend_6 : decode cX1_offend 6 = .ok (.invokestatic 42, 3) := by decide +kernel
theorem dX1_offend_9 : decode cX1_offend 9 = .ok (.aload_n 0, 1) := by decide +kernel
theorem dX1_offend_10 : decode cX1_offend 10 = .ok (.getfield 24, 3) := by decide +kernel
theorem dX1_offend_13 : decode cX1_offend 13 = .ok (.iload_n 1, 1) := by decide +kernel
theorem dX1_offend_14 : decode cX1_offend 14 = .ok (.sipush 999, 3) := by decide +kernel
theorem dX1_offend_17 : decode cX1_offend 17 = .ok (.aload_n 0, 1) := by decide +kernel
theorem dX1_offend_18 : decode cX1_offend 18 = .ok (.getfield 24, 3) := by decide +kernel
theorem dX1_offend_21 : decode cX1_offend 21 = .ok (.iload_n 1, 1) := by decide +kernel
theorem dX1_offend_22 : decode cX1_offend 22 = .ok (.invokestatic 46, 3) := by decide +kernel
theorem dX1_offend_25 : decode cX1_offend 25 = .ok (.iload_n 3, 1) := by decide +kernel
theorem dX1_offend_26 : decode cX1_offend 26 = .ok (.iadd, 1) := by decide +kernel
theorem dX1_offend_27 : decode cX1_offend 27 = .ok (.invokestatic 50, 3) := by decide +kernel
theorem dX1_offend_30 : decode cX1_offend 30 = .ok (.invokestatic 42, 3) := by decide +kernel
theorem dX1_offend_33 : decode cX1_offend 33 = .ok (.return_, 1) := by decide +kernel
theorem dX1_makeNursed_0 : decode cX1_makeNursed 0 = .ok (.iload_n 1, 1) := by decide +kernel
theorem dX1_makeNursed_1 : decode cX1_makeNursed 1 = .ok (.ifCond .lt 18, 3) := by decide +kernel
theorem dX1_makeNursed_4 : decode cX1_makeNursed 4 = .ok (.iload_n 1, 1) := by decide +kernel
theorem dX1_makeNursed_5 : decode cX1_makeNursed 5 = .ok (.aload_n 0, 1) := by decide +kernel
theorem dX1_makeNursed_6 : decode cX1_makeNursed 6 = .ok (.getfield 34, 3) := by decide +kernel
theorem dX1_makeNursed_9 : decode cX1_makeNursed 9 = .ok (.if_icmp .ge 10, 3) := by decide +kernel
theorem dX1_makeNursed_12 : decode cX1_makeNursed 12 = .ok (.aload_n 0, 1) := by decide +kernel
theorem dX1_makeNursed_13 : decode cX1_makeNursed 13 = .ok (.getfield 27, 3) := by decide +kernel
theorem dX1_makeNursed_16 : decode cX1_makeNursed 16 = .ok (.iload_n 1, 1) := by decide +kernel
theorem dX1_makeNursed_17 : decode cX1_makeNursed 17 = .ok (.iconst 1, 1) := by decide +kernel
theorem dX1_makeNursed_18 : decode cX1_makeNursed 18 = .ok (.bastore, 1) := by decide +kernel
theorem dX1_makeNursed_19 : decode cX1_makeNursed 19 = .ok (.return_, 1) := by decide +kernel
theorem dX1_frozen_0 : decode cX1_frozen 0 = .ok (.iload_n 1, 1) := by decide +kernel
theorem dX1_frozen_1 : decode cX1_frozen 1 = .ok (.ifCond .lt 24, 3) := by decide +kernel
theorem dX1_frozen_4 : decode cX1_frozen 4 = .ok (.iload_n 1, 1) := by decide +kernel
theorem dX1_frozen_5 : decode cX1_frozen 5 = .ok (.aload_n 0, 1) := by decide +kernel
theorem dX1_frozen_6 : decode cX1_frozen 6 = .ok (.getfield 34, 3) := by decide +kernel
theorem dX1_frozen_9 : decode cX1_frozen 9 = .ok (.if_icmp .ge 16, 3) := by decide +kernel
theorem dX1_frozen_12 : decode cX1_frozen 12 = .ok (.aload_n 0, 1) := by decide +kernel
theorem dX1_frozen_13 : decode cX1_frozen 13 = .ok (.getfield 31, 3) := by decide +kernel
theorem dX1_frozen_16 : decode cX1_frozen 16 = .ok (.iload_n 1, 1) := by decide +kernel
theorem dX1_frozen_17 : decode cX1_frozen 17 = .ok (.baload, 1) := by decide +kernel
theorem dX1_frozen_18 : decode cX1_frozen 18 = .ok (.ifCond .ne 7, 3) := by decide +kernel
theorem dX1_frozen_21 : decode cX1_frozen 21 = .ok (.iconst 1, 1) := by decide +kernel
theorem dX1_frozen_22 : decode cX1_frozen 22 = .ok (.goto 4, 3) := by decide +kernel
theorem dX1_frozen_25 : decode cX1_frozen 25 = .ok (.iconst 0, 1) := by decide +kernel
theorem dX1_frozen_26 : decode cX1_frozen 26 = .ok (.ireturn, 1) := by decide +kernel
theorem dX1_frozenOnes_0 : decode cX1_frozenOnes 0 = .ok (.iconst 0, 1) := by decide +kernel
theorem dX1_frozenOnes_1 : decode cX1_frozenOnes 1 = .ok (.istore_n 1, 1) := by decide +kernel
theorem dX1_frozenOnes_2 : decode cX1_frozenOnes 2 = .ok (.iconst 0, 1) := by decide +kernel
theorem dX1_frozenOnes_3 : decode cX1_frozenOnes 3 = .ok (.istore_n 2, 1) := by decide +kernel
theorem dX1_frozenOnes_4 : decode cX1_frozenOnes 4 = .ok (.iload_n 2, 1) := by decide +kernel
theorem dX1_frozenOnes_5 : decode cX1_frozenOnes 5 = .ok (.aload_n 0, 1) := by decide +kernel
theorem dX1_frozenOnes_6 : decode cX1_frozenOnes 6 = .ok (.getfield 34, 3) := by decide +kernel
theorem dX1_frozenOnes_9 : decode cX1_frozenOnes 9 = .ok (.if_icmp .ge 24, 3) := by decide +kernel
theorem dX1_frozenOnes_12 : decode cX1_frozenOnes 12 = .ok (.aload_n 0, 1) := by decide +kernel
theorem dX1_frozenOnes_13 : decode cX1_frozenOnes 13 = .ok (.getfield 31, 3) := by decide +kernel
theorem dX1_frozenOnes_16 : decode cX1_frozenOnes 16 = .ok (.iload_n 2, 1) := by decide +kernel
theorem dX1_frozenOnes_17 : decode cX1_frozenOnes 17 = .ok (.baload, 1) := by decide +kernel
theorem dX1_frozenOnes_18 : decode cX1_frozenOnes 18 = .ok (.ifCond .ne 9, 3) := by decide +kernel
theorem dX1_frozenOnes_21 : decode cX1_frozenOnes 21 = .ok (.iload_n 1, 1) := by decide +kernel
theorem dX1_frozenOnes_22 : decode cX1_frozenOnes 22 = .ok (.iconst 1, 1) := by decide +kernel
theorem dX1_frozenOnes_23 : decode cX1_frozenOnes 23 = .ok (.iload_n 2, 1) := by decide +kernel
theorem dX1_frozenOnes_24 : decode cX1_frozenOnes 24 = .ok (.ishl, 1) := by decide +kernel
theorem dX1_frozenOnes_25 : decode cX1_frozenOnes 25 = .ok (.ior, 1) := by decide +kernel
theorem dX1_frozenOnes_26 : decode cX1_frozenOnes 26 = .ok (.istore_n 1, 1) := by decide +kernel
theorem dX1_frozenOnes_27 : decode cX1_frozenOnes 27 = .ok (.iinc 2 1, 3) := by decide +kernel
theorem dX1_frozenOnes_30 : decode cX1_frozenOnes 30 = .ok (.goto (-26), 3) := by decide +kernel
theorem dX1_frozenOnes_33 : decode cX1_frozenOnes 33 = .ok (.iload_n 1, 1) := by decide +kernel
theorem dX1_frozenOnes_34 : decode cX1_frozenOnes 34 = .ok (.ireturn, 1) := by decide +kernel
theorem dX1_find_0 : decode cX1_find 0 = .ok (.iconst 0, 1) := by decide +kernel
theorem dX1_find_1 : decode cX1_find 1 = .ok (.istore_n 3, 1) := by decide +kernel
theorem dX1_find_2 : decode cX1_find 2 = .ok (.iload_n 3, 1) := by decide +kernel
theorem dX1_find_3 : decode cX1_find 3 = .ok (.aload_n 0, 1) := by decide +kernel
theorem dX1_find_4 : decode cX1_find 4 = .ok (.getfield 34, 3) := by decide +kernel
theorem dX1_find_7 : decode cX1_find 7 = .ok (.if_icmp .ge 40, 3) := by decide +kernel
theorem dX1_find_10 : decode cX1_find 10 = .ok (.aload_n 0, 1) := by decide +kernel
theorem dX1_find_11 : decode cX1_find 11 = .ok (.getfield 31, 3) := by decide +kernel
theorem dX1_find_14 : decode cX1_find 14 = .ok (.iload_n 3, 1) := by decide +kernel
theorem dX1_find_15 : decode cX1_find 15 = .ok (.baload, 1) := by decide +kernel
theorem dX1_find_16 : decode cX1_find 16 = .ok (.ifCond .ne 25, 3) := by decide +kernel
theorem dX1_find_19 : decode cX1_find 19 = .ok (.aload_n 0, 1) := by decide +kernel
theorem dX1_find_20 : decode cX1_find 20 = .ok (.getfield 9, 3) := by decide +kernel
theorem dX1_find_23 : decode cX1_find 23 = .ok (.iload_n 3, 1) := by decide +kernel
theorem dX1_find_24 : decode cX1_find 24 = .ok (.iaload, 1) := by decide +kernel
theorem dX1_find_25 : decode cX1_find 25 = .ok (.iload_n 1, 1) := by decide +kernel
theorem dX1_find_26 : decode cX1_find 26 = .ok (.if_icmp .ne 15, 3) := by decide +kernel
theorem dX1_find_29 : decode cX1_find 29 = .ok (.aload_n 0, 1) := by decide +kernel
theorem dX1_find_30 : decode cX1_find 30 = .ok (.getfield 15, 3) := by decide +kernel
theorem dX1_find_33 : decode cX1_find 33 = .ok (.iload_n 3, 1) := by decide +kernel
theorem dX1_find_34 : decode cX1_find 34 = .ok (.iaload, 1) := by decide +kernel
theorem dX1_find_35 : decode cX1_find 35 = .ok (.iload_n 2, 1) := by decide +kernel
theorem dX1_find_36 : decode cX1_find 36 = .ok (.if_icmp .ne 5, 3) := by decide +kernel
theorem dX1_find_39 : decode cX1_find 39 = .ok (.iload_n 3, 1) := by decide +kernel
theorem dX1_find_40 : decode cX1_find 40 = .ok (.ireturn, 1) := by decide +kernel
theorem dX1_find_41 : decode cX1_find 41 = .ok (.iinc 3 1, 3) := by decide +kernel
theorem dX1_find_44 : decode cX1_find 44 = .ok (.goto (-42), 3) := by decide +kernel
theorem dX1_find_47 : decode cX1_find 47 = .ok (.iconst (-1), 1) := by decide +kernel
theorem dX1_find_48 : decode cX1_find 48 = .ok (.ireturn, 1) := by decide +kernel
theorem dX1_isOf_0 : decode cX1_isOf 0 = .ok (.aload_n 0, 1) := by decide +kernel
theorem dX1_isOf_1 : decode cX1_isOf 1 = .ok (.getfield 9, 3) := by decide +kernel
theorem dX1_isOf_4 : decode cX1_isOf 4 = .ok (.iload_n 1, 1) := by decide +kernel
theorem dX1_isOf_5 : decode cX1_isOf 5 = .ok (.invokestatic 46, 3) := by decide +kernel
theorem dX1_isOf_8 : decode cX1_isOf 8 = .ok (.iload_n 2, 1) := by decide +kernel
theorem dX1_isOf_9 : decode cX1_isOf 9 = .ok (.if_icmp .eq 15, 3) := by decide +kernel
theorem dX1_isOf_12 : decode cX1_isOf 12 = .ok (.aload_n 0, 1) := by decide +kernel
theorem dX1_isOf_13 : decode cX1_isOf 13 = .ok (.getfield 15, 3) := by decide +kernel
theorem dX1_isOf_16 : decode cX1_isOf 16 = .ok (.iload_n 1, 1) := by decide +kernel
theorem dX1_isOf_17 : decode cX1_isOf 17 = .ok (.invokestatic 46, 3) := by decide +kernel
theorem dX1_isOf_20 : decode cX1_isOf 20 = .ok (.iload_n 2, 1) := by decide +kernel
theorem dX1_isOf_21 : decode cX1_isOf 21 = .ok (.if_icmp .ne 7, 3) := by decide +kernel
theorem dX1_isOf_24 : decode cX1_isOf 24 = .ok (.iconst 1, 1) := by decide +kernel
theorem dX1_isOf_25 : decode cX1_isOf 25 = .ok (.goto 4, 3) := by decide +kernel
theorem dX1_isOf_28 : decode cX1_isOf 28 = .ok (.iconst 0, 1) := by decide +kernel
theorem dX1_isOf_29 : decode cX1_isOf 29 = .ok (.ireturn, 1) := by decide +kernel
theorem dX1_quarrels_0 : decode cX1_quarrels 0 = .ok (.iconst 0, 1) := by decide +kernel
theorem dX1_quarrels_1 : decode cX1_quarrels 1 = .ok (.istore_n 2, 1) := by decide +kernel
theorem dX1_quarrels_2 : decode cX1_quarrels 2 = .ok (.iload_n 2, 1) := by decide +kernel
theorem dX1_quarrels_3 : decode cX1_quarrels 3 = .ok (.aload_n 0, 1) := by decide +kernel
theorem dX1_quarrels_4 : decode cX1_quarrels 4 = .ok (.getfield 34, 3) := by decide +kernel
theorem dX1_quarrels_7 : decode cX1_quarrels 7 = .ok (.if_icmp .ge 29, 3) := by decide +kernel
theorem dX1_quarrels_10 : decode cX1_quarrels 10 = .ok (.aload_n 0, 1) := by decide +kernel
theorem dX1_quarrels_11 : decode cX1_quarrels 11 = .ok (.getfield 31, 3) := by decide +kernel
theorem dX1_quarrels_14 : decode cX1_quarrels 14 = .ok (.iload_n 2, 1) := by decide +kernel
theorem dX1_quarrels_15 : decode cX1_quarrels 15 = .ok (.baload, 1) := by decide +kernel
theorem dX1_quarrels_16 : decode cX1_quarrels 16 = .ok (.ifCond .ne 14, 3) := by decide +kernel
theorem dX1_quarrels_19 : decode cX1_quarrels 19 = .ok (.aload_n 0, 1) := by decide +kernel
theorem dX1_quarrels_20 : decode cX1_quarrels 20 = .ok (.iload_n 2, 1) := by decide +kernel
theorem dX1_quarrels_21 : decode cX1_quarrels 21 = .ok (.iload_n 1, 1) := by decide +kernel
theorem dX1_quarrels_22 : decode cX1_quarrels 22 = .ok (.invokevirtual 56, 3) := by decide +kernel
theorem dX1_quarrels_25 : decode cX1_quarrels 25 = .ok (.ifCond .eq 5, 3) := by decide +kernel
theorem dX1_quarrels_28 : decode cX1_quarrels 28 = .ok (.iconst 1, 1) := by decide +kernel
theorem dX1_quarrels_29 : decode cX1_quarrels 29 = .ok (.ireturn, 1) := by decide +kernel
theorem dX1_quarrels_30 : decode cX1_quarrels 30 = .ok (.iinc 2 1, 3) := by decide +kernel
theorem dX1_quarrels_33 : decode cX1_quarrels 33 = .ok (.goto (-31), 3) := by decide +kernel
theorem dX1_quarrels_36 : decode cX1_quarrels 36 = .ok (.iconst 0, 1) := by decide +kernel
theorem dX1_quarrels_37 : decode cX1_quarrels 37 = .ok (.ireturn, 1) := by decide +kernel
theorem dX1_allIce_0 : decode cX1_allIce 0 = .ok (.iconst 0, 1) := by decide +kernel
theorem dX1_allIce_1 : decode cX1_allIce 1 = .ok (.istore_n 1, 1) := by decide +kernel
theorem dX1_allIce_2 : decode cX1_allIce 2 = .ok (.iconst 0, 1) := by decide +kernel
theorem dX1_allIce_3 : decode cX1_allIce 3 = .ok (.istore_n 2, 1) := by decide +kernel
theorem dX1_allIce_4 : decode cX1_allIce 4 = .ok (.iload_n 2, 1) := by decide +kernel
theorem dX1_allIce_5 : decode cX1_allIce 5 = .ok (.aload_n 0, 1) := by decide +kernel
theorem dX1_allIce_6 : decode cX1_allIce 6 = .ok (.getfield 34, 3) := by decide +kernel
theorem dX1_allIce_9 : decode cX1_allIce 9 = .ok (.if_icmp .ge 27, 3) := by decide +kernel
theorem dX1_allIce_12 : decode cX1_allIce 12 = .ok (.aload_n 0, 1) := by decide +kernel
theorem dX1_allIce_13 : decode cX1_allIce 13 = .ok (.getfield 31, 3) := by decide +kernel
theorem dX1_allIce_16 : decode cX1_allIce 16 = .ok (.iload_n 2, 1) := by decide +kernel
theorem dX1_allIce_17 : decode cX1_allIce 17 = .ok (.baload, 1) := by decide +kernel
theorem dX1_allIce_18 : decode cX1_allIce 18 = .ok (.ifCond .ne 12, 3) := by decide +kernel
theorem dX1_allIce_21 : decode cX1_allIce 21 = .ok (.iload_n 1, 1) := by decide +kernel
theorem dX1_allIce_22 : decode cX1_allIce 22 = .ok (.aload_n 0, 1) := by decide +kernel
theorem dX1_allIce_23 : decode cX1_allIce 23 = .ok (.getfield 24, 3) := by decide +kernel
theorem dX1_allIce_26 : decode cX1_allIce 26 = .ok (.iload_n 2, 1) := by decide +kernel
theorem dX1_allIce_27 : decode cX1_allIce 27 = .ok (.iaload, 1) := by decide +kernel
theorem dX1_allIce_28 : decode cX1_allIce 28 = .ok (.iadd, 1) := by decide +kernel
theorem dX1_allIce_29 : decode cX1_allIce 29 = .ok (.istore_n 1, 1) := by decide +kernel
theorem dX1_allIce_30 : decode cX1_allIce 30 = .ok (.iinc 2 1, 3) := by decide +kernel
theorem dX1_allIce_33 : decode cX1_allIce 33 = .ok (.goto (-29), 3) := by decide +kernel
theorem dX1_allIce_36 : decode cX1_allIce 36 = .ok (.iload_n 1, 1) := by decide +kernel
theorem dX1_allIce_37 : decode cX1_allIce 37 = .ok (.ireturn, 1) := by decide +kernel
theorem dX1_iceOf_0 : decode cX1_iceOf 0 = .ok (.iconst 0, 1) := by decide +kernel
theorem dX1_iceOf_1 : decode cX1_iceOf 1 = .ok (.istore_n 2, 1) := by decide +kernel
theorem dX1_iceOf_2 : decode cX1_iceOf 2 = .ok (.iconst 0, 1) := by decide +kernel
theorem dX1_iceOf_3 : decode cX1_iceOf 3 = .ok (.istore_n 3, 1) := by decide +kernel
theorem dX1_iceOf_4 : decode cX1_iceOf 4 = .ok (.iload_n 3, 1) := by decide +kernel
theorem dX1_iceOf_5 : decode cX1_iceOf 5 = .ok (.aload_n 0, 1) := by decide +kernel
theorem dX1_iceOf_6 : decode cX1_iceOf 6 = .ok (.getfield 34, 3) := by decide +kernel
theorem dX1_iceOf_9 : decode cX1_iceOf 9 = .ok (.if_icmp .ge 36, 3) := by decide +kernel
theorem dX1_iceOf_12 : decode cX1_iceOf 12 = .ok (.aload_n 0, 1) := by decide +kernel
theorem dX1_iceOf_13 : decode cX1_iceOf 13 = .ok (.getfield 31, 3) := by decide +kernel
theorem dX1_iceOf_16 : decode cX1_iceOf 16 = .ok (.iload_n 3, 1) := by decide +kernel
theorem dX1_iceOf_17 : decode cX1_iceOf 17 = .ok (.baload, 1) := by decide +kernel
theorem dX1_iceOf_18 : decode cX1_iceOf 18 = .ok (.ifCond .ne 21, 3) := by decide +kernel
theorem dX1_iceOf_21 : decode cX1_iceOf 21 = .ok (.aload_n 0, 1) := by decide +kernel
theorem dX1_iceOf_22 : decode cX1_iceOf 22 = .ok (.iload_n 3, 1) := by decide +kernel
theorem dX1_iceOf_23 : decode cX1_iceOf 23 = .ok (.iload_n 1, 1) := by decide +kernel
theorem dX1_iceOf_24 : decode cX1_iceOf 24 = .ok (.invokevirtual 56, 3) := by decide +kernel
theorem dX1_iceOf_27 : decode cX1_iceOf 27 = .ok (.ifCond .eq 12, 3) := by decide +kernel
theorem dX1_iceOf_30 : decode cX1_iceOf 30 = .ok (.iload_n 2, 1) := by decide +kernel
theorem dX1_iceOf_31 : decode cX1_iceOf 31 = .ok (.aload_n 0, 1) := by decide +kernel
theorem dX1_iceOf_32 : decode cX1_iceOf 32 = .ok (.getfield 24, 3) := by decide +kernel
theorem dX1_iceOf_35 : decode cX1_iceOf 35 = .ok (.iload_n 3, 1) := by decide +kernel
theorem dX1_iceOf_36 : decode cX1_iceOf 36 = .ok (.iaload, 1) := by decide +kernel
theorem dX1_iceOf_37 : decode cX1_iceOf 37 = .ok (.iadd, 1) := by decide +kernel
theorem dX1_iceOf_38 : decode cX1_iceOf 38 = .ok (.istore_n 2, 1) := by decide +kernel
theorem dX1_iceOf_39 : decode cX1_iceOf 39 = .ok (.iinc 3 1, 3) := by decide +kernel
theorem dX1_iceOf_42 : decode cX1_iceOf 42 = .ok (.goto (-38), 3) := by decide +kernel
theorem dX1_iceOf_45 : decode cX1_iceOf 45 = .ok (.iload_n 2, 1) := by decide +kernel
theorem dX1_iceOf_46 : decode cX1_iceOf 46 = .ok (.ireturn, 1) := by decide +kernel
theorem dX1_iceFor_0 : decode cX1_iceFor 0 = .ok (.iconst 0, 1) := by decide +kernel
theorem dX1_iceFor_1 : decode cX1_iceFor 1 = .ok (.istore_n 2, 1) := by decide +kernel
theorem dX1_iceFor_2 : decode cX1_iceFor 2 = .ok (.iconst 0, 1) := by decide +kernel
theorem dX1_iceFor_3 : decode cX1_iceFor 3 = .ok (.istore_n 3, 1) := by decide +kernel
theorem dX1_iceFor_4 : decode cX1_iceFor 4 = .ok (.iload_n 3, 1) := by decide +kernel
theorem dX1_iceFor_5 : decode cX1_iceFor 5 = .ok (.aload_n 0, 1) := by decide +kernel
theorem dX1_iceFor_6 : decode cX1_iceFor 6 = .ok (.getfield 34, 3) := by decide +kernel
theorem dX1_iceFor_9 : decode cX1_iceFor 9 = .ok (.if_icmp .ge 55, 3) := by decide +kernel
theorem dX1_iceFor_12 : decode cX1_iceFor 12 = .ok (.iload_n 1, 1) := by decide +kernel
theorem dX1_iceFor_13 : decode cX1_iceFor 13 = .ok (.iconst 1, 1) := by decide +kernel
theorem dX1_iceFor_14 : decode cX1_iceFor 14 = .ok (.aload_n 0, 1) := by decide +kernel
theorem dX1_iceFor_15 : decode cX1_iceFor 15 = .ok (.getfield 9, 3) := by decide +kernel
theorem dX1_iceFor_18 : decode cX1_iceFor 18 = .ok (.iload_n 3, 1) := by decide +kernel
theorem dX1_iceFor_19 : decode cX1_iceFor 19 = .ok (.iaload, 1) := by decide +kernel
theorem dX1_iceFor_20 : decode cX1_iceFor 20 = .ok (.ishl, 1) := by decide +kernel
theorem dX1_iceFor_21 : decode cX1_iceFor 21 = .ok (.iconst 1, 1) := by decide +kernel
theorem dX1_iceFor_22 : decode cX1_iceFor 22 = .ok (.aload_n 0, 1) := by decide +kernel
theorem dX1_iceFor_23 : decode cX1_iceFor 23 = .ok (.getfield 15, 3) := by decide +kernel
theorem dX1_iceFor_26 : decode cX1_iceFor 26 = .ok (.iload_n 3, 1) := by decide +kernel
theorem dX1_iceFor_27 : decode cX1_iceFor 27 = .ok (.iaload, 1) := by decide +kernel
theorem dX1_iceFor_28 : decode cX1_iceFor 28 = .ok (.ishl, 1) := by decide +kernel
theorem dX1_iceFor_29 : decode cX1_iceFor 29 = .ok (.ior, 1) := by decide +kernel
theorem dX1_iceFor_30 : decode cX1_iceFor 30 = .ok (.iconst (-1), 1) := by decide +kernel
theorem dX1_iceFor_31 : decode cX1_iceFor 31 = .ok (.ixor, 1) := by decide +kernel
theorem dX1_iceFor_32 : decode cX1_iceFor 32 = .ok (.iand, 1) := by decide +kernel
theorem dX1_iceFor_33 : decode cX1_iceFor 33 = .ok (.istore 4, 2) := by decide +kernel
theorem dX1_iceFor_35 : decode cX1_iceFor 35 = .ok (.aload_n 0, 1) := by decide +kernel
theorem dX1_iceFor_36 : decode cX1_iceFor 36 = .ok (.getfield 31, 3) := by decide +kernel
theorem dX1_iceFor_39 : decode cX1_iceFor 39 = .ok (.iload_n 3, 1) := by decide +kernel
theorem dX1_iceFor_40 : decode cX1_iceFor 40 = .ok (.baload, 1) := by decide +kernel
theorem dX1_iceFor_41 : decode cX1_iceFor 41 = .ok (.ifCond .ne 17, 3) := by decide +kernel
theorem dX1_iceFor_44 : decode cX1_iceFor 44 = .ok (.iload 4, 2) := by decide +kernel
theorem dX1_iceFor_46 : decode cX1_iceFor 46 = .ok (.ifCond .eq 12, 3) := by decide +kernel
theorem dX1_iceFor_49 : decode cX1_iceFor 49 = .ok (.iload_n 2, 1) := by decide +kernel
theorem dX1_iceFor_50 : decode cX1_iceFor 50 = .ok (.aload_n 0, 1) := by decide +kernel
theorem dX1_iceFor_51 : decode cX1_iceFor 51 = .ok (.getfield 24, 3) := by decide +kernel
theorem dX1_iceFor_54 : decode cX1_iceFor 54 = .ok (.iload_n 3, 1) := by decide +kernel
theorem dX1_iceFor_55 : decode cX1_iceFor 55 = .ok (.iaload, 1) := by decide +kernel
theorem dX1_iceFor_56 : decode cX1_iceFor 56 = .ok (.iadd, 1) := by decide +kernel
theorem dX1_iceFor_57 : decode cX1_iceFor 57 = .ok (.istore_n 2, 1) := by decide +kernel
theorem dX1_iceFor_58 : decode cX1_iceFor 58 = .ok (.iinc 3 1, 3) := by decide +kernel
theorem dX1_iceFor_61 : decode cX1_iceFor 61 = .ok (.goto (-57), 3) := by decide +kernel
theorem dX1_iceFor_64 : decode cX1_iceFor 64 = .ok (.iload_n 2, 1) := by decide +kernel
theorem dX1_iceFor_65 : decode cX1_iceFor 65 = .ok (.ireturn, 1) := by decide +kernel
theorem dX1_hundredths_0 : decode cX1_hundredths 0 = .ok (.aload_n 0, 1) := by decide +kernel
theorem dX1_hundredths_1 : decode cX1_hundredths 1 = .ok (.invokevirtual 60, 3) := by decide +kernel
theorem dX1_hundredths_4 : decode cX1_hundredths 4 = .ok (.istore_n 2, 1) := by decide +kernel
theorem dX1_hundredths_5 : decode cX1_hundredths 5 = .ok (.iload_n 2, 1) := by decide +kernel
theorem dX1_hundredths_6 : decode cX1_hundredths 6 = .ok (.ifCond .le 27, 3) := by decide +kernel
theorem dX1_hundredths_9 : decode cX1_hundredths 9 = .ok (.aload_n 0, 1) := by decide +kernel
theorem dX1_hundredths_10 : decode cX1_hundredths 10 = .ok (.iload_n 1, 1) := by decide +kernel
theorem dX1_hundredths_11 : decode cX1_hundredths 11 = .ok (.invokevirtual 64, 3) := by decide +kernel
theorem dX1_hundredths_14 : decode cX1_hundredths 14 = .ok (.ifCond .eq 19, 3) := by decide +kernel
theorem dX1_hundredths_17 : decode cX1_hundredths 17 = .ok (.aload_n 0, 1) := by decide +kernel
theorem dX1_hundredths_18 : decode cX1_hundredths 18 = .ok (.getfield 24, 3) := by decide +kernel
theorem dX1_hundredths_21 : decode cX1_hundredths 21 = .ok (.iload_n 1, 1) := by decide +kernel
theorem dX1_hundredths_22 : decode cX1_hundredths 22 = .ok (.invokestatic 46, 3) := by decide +kernel
theorem dX1_hundredths_25 : decode cX1_hundredths 25 = .ok (.bipush 100, 2) := by decide +kernel
theorem dX1_hundredths_27 : decode cX1_hundredths 27 = .ok (.imul, 1) := by decide +kernel
theorem dX1_hundredths_28 : decode cX1_hundredths 28 = .ok (.iload_n 2, 1) := by decide +kernel
theorem dX1_hundredths_29 : decode cX1_hundredths 29 = .ok (.idiv, 1) := by decide +kernel
theorem dX1_hundredths_30 : decode cX1_hundredths 30 = .ok (.goto 4, 3) := by decide +kernel
theorem dX1_hundredths_33 : decode cX1_hundredths 33 = .ok (.iconst 0, 1) := by decide +kernel
theorem dX1_hundredths_34 : decode cX1_hundredths 34 = .ok (.ireturn, 1) := by decide +kernel
theorem dX1_over_0 : decode cX1_over 0 = .ok (.iconst 0, 1) := by decide +kernel
theorem dX1_over_1 : decode cX1_over 1 = .ok (.istore_n 2, 1) := by decide +kernel
theorem dX1_over_2 : decode cX1_over 2 = .ok (.iconst 0, 1) := by decide +kernel
theorem dX1_over_3 : decode cX1_over 3 = .ok (.istore_n 3, 1) := by decide +kernel
theorem dX1_over_4 : decode cX1_over 4 = .ok (.iload_n 3, 1) := by decide +kernel
theorem dX1_over_5 : decode cX1_over 5 = .ok (.aload_n 0, 1) := by decide +kernel
theorem dX1_over_6 : decode cX1_over 6 = .ok (.getfield 34, 3) := by decide +kernel
theorem dX1_over_9 : decode cX1_over 9 = .ok (.if_icmp .ge 34, 3) := by decide +kernel
theorem dX1_over_12 : decode cX1_over 12 = .ok (.aload_n 0, 1) := by decide +kernel
theorem dX1_over_13 : decode cX1_over 13 = .ok (.getfield 31, 3) := by decide +kernel
theorem dX1_over_16 : decode cX1_over 16 = .ok (.iload_n 3, 1) := by decide +kernel
theorem dX1_over_17 : decode cX1_over 17 = .ok (.baload, 1) := by decide +kernel
theorem dX1_over_18 : decode cX1_over 18 = .ok (.ifCond .ne 19, 3) := by decide +kernel
theorem dX1_over_21 : decode cX1_over 21 = .ok (.aload_n 0, 1) := by decide +kernel
theorem dX1_over_22 : decode cX1_over 22 = .ok (.getfield 18, 3) := by decide +kernel
theorem dX1_over_25 : decode cX1_over 25 = .ok (.iload_n 3, 1) := by decide +kernel
theorem dX1_over_26 : decode cX1_over 26 = .ok (.iaload, 1) := by decide +kernel
theorem dX1_over_27 : decode cX1_over 27 = .ok (.iload_n 1, 1) := by decide +kernel
theorem dX1_over_28 : decode cX1_over 28 = .ok (.if_icmp .ne 9, 3) := by decide +kernel
theorem dX1_over_31 : decode cX1_over 31 = .ok (.iload_n 2, 1) := by decide +kernel
theorem dX1_over_32 : decode cX1_over 32 = .ok (.iconst 1, 1) := by decide +kernel
theorem dX1_over_33 : decode cX1_over 33 = .ok (.iload_n 3, 1) := by decide +kernel
theorem dX1_over_34 : decode cX1_over 34 = .ok (.ishl, 1) := by decide +kernel
theorem dX1_over_35 : decode cX1_over 35 = .ok (.ior, 1) := by decide +kernel
theorem dX1_over_36 : decode cX1_over 36 = .ok (.istore_n 2, 1) := by decide +kernel
theorem dX1_over_37 : decode cX1_over 37 = .ok (.iinc 3 1, 3) := by decide +kernel
theorem dX1_over_40 : decode cX1_over 40 = .ok (.goto (-36), 3) := by decide +kernel
theorem dX1_over_43 : decode cX1_over 43 = .ok (.iload_n 2, 1) := by decide +kernel
theorem dX1_over_44 : decode cX1_over 44 = .ok (.ireturn, 1) := by decide +kernel
theorem dX1_alike_0 : decode cX1_alike 0 = .ok (.aload_n 0, 1) := by decide +kernel
theorem dX1_alike_1 : decode cX1_alike 1 = .ok (.iload_n 1, 1) := by decide +kernel
theorem dX1_alike_2 : decode cX1_alike 2 = .ok (.invokevirtual 64, 3) := by decide +kernel
theorem dX1_alike_5 : decode cX1_alike 5 = .ok (.ifCond .eq 53, 3) := by decide +kernel
theorem dX1_alike_8 : decode cX1_alike 8 = .ok (.aload_n 0, 1) := by decide +kernel
theorem dX1_alike_9 : decode cX1_alike 9 = .ok (.iload_n 2, 1) := by decide +kernel
theorem dX1_alike_10 : decode cX1_alike 10 = .ok (.invokevirtual 64, 3) := by decide +kernel
theorem dX1_alike_13 : decode cX1_alike 13 = .ok (.ifCond .eq 45, 3) := by decide +kernel
theorem dX1_alike_16 : decode cX1_alike 16 = .ok (.aload_n 0, 1) := by decide +kernel
theorem dX1_alike_17 : decode cX1_alike 17 = .ok (.getfield 18, 3) := by decide +kernel
theorem dX1_alike_20 : decode cX1_alike 20 = .ok (.iload_n 1, 1) := by decide +kernel
theorem dX1_alike_21 : decode cX1_alike 21 = .ok (.invokestatic 46, 3) := by decide +kernel
theorem dX1_alike_24 : decode cX1_alike 24 = .ok (.aload_n 0, 1) := by decide +kernel
theorem dX1_alike_25 : decode cX1_alike 25 = .ok (.getfield 18, 3) := by decide +kernel
theorem dX1_alike_28 : decode cX1_alike 28 = .ok (.iload_n 2, 1) := by decide +kernel
theorem dX1_alike_29 : decode cX1_alike 29 = .ok (.invokestatic 46, 3) := by decide +kernel
theorem dX1_alike_32 : decode cX1_alike 32 = .ok (.if_icmp .ne 26, 3) := by decide +kernel
theorem dX1_alike_35 : decode cX1_alike 35 = .ok (.aload_n 0, 1) := by decide +kernel
theorem dX1_alike_36 : decode cX1_alike 36 = .ok (.getfield 21, 3) := by decide +kernel
theorem dX1_alike_39 : decode cX1_alike 39 = .ok (.iload_n 1, 1) := by decide +kernel
theorem dX1_alike_40 : decode cX1_alike 40 = .ok (.invokestatic 46, 3) := by decide +kernel
theorem dX1_alike_43 : decode cX1_alike 43 = .ok (.aload_n 0, 1) := by decide +kernel
theorem dX1_alike_44 : decode cX1_alike 44 = .ok (.getfield 21, 3) := by decide +kernel
theorem dX1_alike_47 : decode cX1_alike 47 = .ok (.iload_n 2, 1) := by decide +kernel
theorem dX1_alike_48 : decode cX1_alike 48 = .ok (.invokestatic 46, 3) := by decide +kernel
theorem dX1_alike_51 : decode cX1_alike 51 = .ok (.if_icmp .ne 7, 3) := by decide +kernel
theorem dX1_alike_54 : decode cX1_alike 54 = .ok (.iconst 1, 1) := by decide +kernel
theorem dX1_alike_55 : decode cX1_alike 55 = .ok (.goto 4, 3) := by decide +kernel
theorem dX1_alike_58 : decode cX1_alike 58 = .ok (.iconst 0, 1) := by decide +kernel
theorem dX1_alike_59 : decode cX1_alike 59 = .ok (.ireturn, 1) := by decide +kernel
theorem dX1_within_0 : decode cX1_within 0 = .ok (.iconst 0, 1) := by decide +kernel
theorem dX1_within_1 : decode cX1_within 1 = .ok (.istore_n 2, 1) := by decide +kernel
theorem dX1_within_2 : decode cX1_within 2 = .ok (.iconst 0, 1) := by decide +kernel
theorem dX1_within_3 : decode cX1_within 3 = .ok (.istore_n 3, 1) := by decide +kernel
theorem dX1_within_4 : decode cX1_within 4 = .ok (.iload_n 3, 1) := by decide +kernel
theorem dX1_within_5 : decode cX1_within 5 = .ok (.aload_n 0, 1) := by decide +kernel
theorem dX1_within_6 : decode cX1_within 6 = .ok (.getfield 34, 3) := by decide +kernel
theorem dX1_within_9 : decode cX1_within 9 = .ok (.if_icmp .ge 44, 3) := by decide +kernel
theorem dX1_within_12 : decode cX1_within 12 = .ok (.aload_n 0, 1) := by decide +kernel
theorem dX1_within_13 : decode cX1_within 13 = .ok (.getfield 31, 3) := by decide +kernel
theorem dX1_within_16 : decode cX1_within 16 = .ok (.iload_n 3, 1) := by decide +kernel
theorem dX1_within_17 : decode cX1_within 17 = .ok (.baload, 1) := by decide +kernel
theorem dX1_within_18 : decode cX1_within 18 = .ok (.ifCond .ne 29, 3) := by decide +kernel
theorem dX1_within_21 : decode cX1_within 21 = .ok (.iload_n 1, 1) := by decide +kernel
theorem dX1_within_22 : decode cX1_within 22 = .ok (.aload_n 0, 1) := by decide +kernel
theorem dX1_within_23 : decode cX1_within 23 = .ok (.getfield 9, 3) := by decide +kernel
theorem dX1_within_26 : decode cX1_within 26 = .ok (.iload_n 3, 1) := by decide +kernel
theorem dX1_within_27 : decode cX1_within 27 = .ok (.iaload, 1) := by decide +kernel
theorem dX1_within_28 : decode cX1_within 28 = .ok (.invokestatic 68, 3) := by decide +kernel
theorem dX1_within_31 : decode cX1_within 31 = .ok (.iload_n 1, 1) := by decide +kernel
theorem dX1_within_32 : decode cX1_within 32 = .ok (.aload_n 0, 1) := by decide +kernel
theorem dX1_within_33 : decode cX1_within 33 = .ok (.getfield 15, 3) := by decide +kernel
theorem dX1_within_36 : decode cX1_within 36 = .ok (.iload_n 3, 1) := by decide +kernel
theorem dX1_within_37 : decode cX1_within 37 = .ok (.iaload, 1) := by decide +kernel
theorem dX1_within_38 : decode cX1_within 38 = .ok (.invokestatic 68, 3) := by decide +kernel
theorem dX1_within_41 : decode cX1_within 41 = .ok (.if_icmp .ne 6, 3) := by decide +kernel
theorem dX1_within_44 : decode cX1_within 44 = .ok (.iinc 2 1, 3) := by decide +kernel
theorem dX1_within_47 : decode cX1_within 47 = .ok (.iinc 3 1, 3) := by decide +kernel
theorem dX1_within_50 : decode cX1_within 50 = .ok (.goto (-46), 3) := by decide +kernel
theorem dX1_within_53 : decode cX1_within 53 = .ok (.iload_n 2, 1) := by decide +kernel
theorem dX1_within_54 : decode cX1_within 54 = .ok (.ireturn, 1) := by decide +kernel
theorem dX2_init_0 : decode cX2_init 0 = .ok (.aload_n 0, 1) := by decide +kernel
theorem dX2_init_1 : decode cX2_init 1 = .ok (.invokespecial 3, 3) := by decide +kernel
theorem dX2_init_4 : decode cX2_init 4 = .ok (.aload_n 0, 1) := by decide +kernel
theorem dX2_init_5 : decode cX2_init 5 = .ok (.bipush 12, 2) := by decide +kernel
theorem dX2_init_7 : decode cX2_init 7 = .ok (.newarray .int, 2) := by decide +kernel
theorem dX2_init_9 : decode cX2_init 9 = .ok (.putfield 9, 3) := by decide +kernel
theorem dX2_init_12 : decode cX2_init 12 = .ok (.aload_n 0, 1) := by decide +kernel
theorem dX2_init_13 : decode cX2_init 13 = .ok (.bipush 12, 2) := by decide +kernel
theorem dX2_init_15 : decode cX2_init 15 = .ok (.newarray .int, 2) := by decide +kernel
theorem dX2_init_17 : decode cX2_init 17 = .ok (.putfield 15, 3) := by decide +kernel
theorem dX2_init_20 : decode cX2_init 20 = .ok (.aload_n 0, 1) := by decide +kernel
theorem dX2_init_21 : decode cX2_init 21 = .ok (.bipush 12, 2) := by decide +kernel
theorem dX2_init_23 : decode cX2_init 23 = .ok (.newarray .int, 2) := by decide +kernel
theorem dX2_init_25 : decode cX2_init 25 = .ok (.putfield 18, 3) := by decide +kernel
theorem dX2_init_28 : decode cX2_init 28 = .ok (.aload_n 0, 1) := by decide +kernel
theorem dX2_init_29 : decode cX2_init 29 = .ok (.bipush 12, 2) := by decide +kernel
theorem dX2_init_31 : decode cX2_init 31 = .ok (.newarray .int, 2) := by decide +kernel
theorem dX2_init_33 : decode cX2_init 33 = .ok (.putfield 21, 3) := by decide +kernel
theorem dX2_init_36 : decode cX2_init 36 = .ok (.aload_n 0, 1) := by decide +kernel
theorem dX2_init_37 : decode cX2_init 37 = .ok (.sipush 400, 3) := by decide +kernel
theorem dX2_init_40 : decode cX2_init 40 = .ok (.newarray .int, 2) := by decide +kernel
theorem dX2_init_42 : decode cX2_init 42 = .ok (.putfield 24, 3) := by decide +kernel
theorem dX2_init_45 : decode cX2_init 45 = .ok (.aload_n 0, 1) := by decide +kernel
theorem dX2_init_46 : decode cX2_init 46 = .ok (.bipush 11, 2) := by decide +kernel
theorem dX2_init_48 : decode cX2_init 48 = .ok (.newarray .int, 2) := by decide +kernel
theorem dX2_init_50 : decode cX2_init 50 = .ok (.putfield 27, 3) := by decide +kernel
theorem dX2_init_53 : decode cX2_init 53 = .ok (.aload_n 0, 1) := by decide +kernel
theorem dX2_init_54 : decode cX2_init 54 = .ok (.bipush 32, 2) := by decide +kernel
theorem dX2_init_56 : decode cX2_init 56 = .ok (.newarray .int, 2) := by decide +kernel
theorem dX2_init_58 : decode cX2_init 58 = .ok (.putfield 30, 3) := by decide +kernel
theorem dX2_init_61 : decode cX2_init 61 = .ok (.aload_n 0, 1) := by decide +kernel
theorem dX2_init_62 : decode cX2_init 62 = .ok (.iconst (-1), 1) := by decide +kernel
theorem dX2_init_63 : decode cX2_init 63 = .ok (.putfield 33, 3) := by decide +kernel
theorem dX2_init_66 : decode cX2_init 66 = .ok (.aload_n 0, 1) := by decide +kernel
theorem dX2_init_67 : decode cX2_init 67 = .ok (.iconst 0, 1) := by decide +kernel
theorem dX2_init_68 : decode cX2_init 68 = .ok (.putfield 37, 3) := by decide +kernel
theorem dX2_init_71 : decode cX2_init 71 = .ok (.return_, 1) := by decide +kernel
theorem dX2_clear_0 : decode cX2_clear 0 = .ok (.aload_n 0, 1) := by decide +kernel
theorem dX2_clear_1 : decode cX2_clear 1 = .ok (.iconst (-1), 1) := by decide +kernel
theorem dX2_clear_2 : decode cX2_clear 2 = .ok (.putfield 33, 3) := by decide +kernel
theorem dX2_clear_5 : decode cX2_clear 5 = .ok (.aload_n 0, 1) := by decide +kernel
theorem dX2_clear_6 : decode cX2_clear 6 = .ok (.iconst 0, 1) := by decide +kernel
theorem dX2_clear_7 : decode cX2_clear 7 = .ok (.putfield 37, 3) := by decide +kernel
theorem dX2_clear_10 : decode cX2_clear 10 = .ok (.return_, 1) := by decide +kernel
theorem dX2_copyFrom_0 : decode cX2_copyFrom 0 = .ok (.aload_n 1, 1) := by decide +kernel
theorem dX2_copyFrom_1 : decode cX2_copyFrom 1 = .ok (.getfield 9, 3) := by decide +kernel
theorem dX2_copyFrom_4 : decode cX2_copyFrom 4 = .ok (.aload_n 0, 1) := by decide +kernel
theorem dX2_copyFrom_5 : decode cX2_copyFrom 5 = .ok (.getfield 9, 3) := by decide +kernel
theorem dX2_copyFrom_8 : decode cX2_copyFrom 8 = .ok (.invokestatic 40, 3) := by decide +kernel
theorem dX2_copyFrom_11 : decode cX2_copyFrom 11 = .ok (.aload_n 1, 1) := by decide +kernel
theorem dX2_copyFrom_12 : decode cX2_copyFrom 12 = .ok (.getfield 15, 3) := by decide +kernel
theorem dX2_copyFrom_15 : decode cX2_copyFrom 15 = .ok (.aload_n 0, 1) := by decide +kernel
theorem dX2_copyFrom_16 : decode cX2_copyFrom 16 = .ok (.getfield 15, 3) := by decide +kernel
theorem dX2_copyFrom_19 : decode cX2_copyFrom 19 = .ok (.invokestatic 40, 3) := by decide +kernel
theorem dX2_copyFrom_22 : decode cX2_copyFrom 22 = .ok (.aload_n 1, 1) := by decide +kernel
theorem dX2_copyFrom_23 : decode cX2_copyFrom 23 = .ok (.getfield 18, 3) := by decide +kernel
theorem dX2_copyFrom_26 : decode cX2_copyFrom 26 = .ok (.aload_n 0, 1) := by decide +kernel
theorem dX2_copyFrom_27 : decode cX2_copyFrom 27 = .ok (.getfield 18, 3) := by decide +kernel
theorem dX2_copyFrom_30 : decode cX2_copyFrom 30 = .ok (.invokestatic 40, 3) := by decide +kernel
theorem dX2_copyFrom_33 : decode cX2_copyFrom 33 = .ok (.aload_n 1, 1) := by decide +kernel
theorem dX2_copyFrom_34 : decode cX2_copyFrom 34 = .ok (.getfield 21, 3) := by decide +kernel
theorem dX2_copyFrom_37 : decode cX2_copyFrom 37 = .ok (.aload_n 0, 1) := by decide +kernel
theorem dX2_copyFrom_38 : decode cX2_copyFrom 38 = .ok (.getfield 21, 3) := by decide +kernel
theorem dX2_copyFrom_41 : decode cX2_copyFrom 41 = .ok (.invokestatic 40, 3) := by decide +kernel
theorem dX2_copyFrom_44 : decode cX2_copyFrom 44 = .ok (.aload_n 1, 1) := by decide +kernel
theorem dX2_copyFrom_45 : decode cX2_copyFrom 45 = .ok (.getfield 24, 3) := by decide +kernel
theorem dX2_copyFrom_48 : decode cX2_copyFrom 48 = .ok (.aload_n 0, 1) := by decide +kernel
theorem dX2_copyFrom_49 : decode cX2_copyFrom 49 = .ok (.getfield 24, 3) := by decide +kernel
theorem dX2_copyFrom_52 : decode cX2_copyFrom 52 = .ok (.invokestatic 40, 3) := by decide +kernel
theorem dX2_copyFrom_55 : decode cX2_copyFrom 55 = .ok (.aload_n 0, 1) := by decide +kernel
theorem dX2_copyFrom_56 : decode cX2_copyFrom 56 = .ok (.aload_n 1, 1) := by decide +kernel
theorem dX2_copyFrom_57 : decode cX2_copyFrom 57 = .ok (.getfield 33, 3) := by decide +kernel
theorem dX2_copyFrom_60 : decode cX2_copyFrom 60 = .ok (.putfield 33, 3) := by decide +kernel
theorem dX2_copyFrom_63 : decode cX2_copyFrom 63 = .ok (.aload_n 0, 1) := by decide +kernel
theorem dX2_copyFrom_64 : decode cX2_copyFrom 64 = .ok (.aload_n 1, 1) := by decide +kernel
theorem dX2_copyFrom_65 : decode cX2_copyFrom 65 = .ok (.getfield 37, 3) := by decide +kernel
theorem dX2_copyFrom_68 : decode cX2_copyFrom 68 = .ok (.putfield 37, 3) := by decide +kernel
theorem dX2_copyFrom_71 : decode cX2_copyFrom 71 = .ok (.return_, 1) := by decide +kernel
theorem dX2_put_0 : decode cX2_put 0 = .ok (.aload_n 0, 1) := by decide +kernel
theorem dX2_put_1 : decode cX2_put 1 = .ok (.getfield 37, 3) := by decide +kernel
theorem dX2_put_4 : decode cX2_put 4 = .ok (.aload_n 0, 1) := by decide +kernel
theorem dX2_put_5 : decode cX2_put 5 = .ok (.getfield 24, 3) := by decide +kernel
theorem dX2_put_8 : decode cX2_put 8 = .ok (.arraylength, 1) := by decide +kernel
theorem dX2_put_9 : decode cX2_put 9 = .ok (.if_icmp .ge 23, 3) := by decide +kernel
theorem dX2_put_12 : decode cX2_put 12 = .ok (.aload_n 0, 1) := by decide +kernel
theorem dX2_put_13 : decode cX2_put 13 = .ok (.getfield 24, 3) := by decide +kernel
theorem dX2_put_16 : decode cX2_put 16 = .ok (.aload_n 0, 1) := by decide +kernel
theorem dX2_put_17 : decode cX2_put 17 = .ok (.getfield 37, 3) := by decide +kernel
theorem dX2_put_20 : decode cX2_put 20 = .ok (.iload_n 1, 1) := by decide +kernel
theorem dX2_put_21 : decode cX2_put 21 = .ok (.iastore, 1) := by decide +kernel
theorem dX2_put_22 : decode cX2_put 22 = .ok (.aload_n 0, 1) := by decide +kernel
theorem dX2_put_23 : decode cX2_put 23 = .ok (.dup, 1) := by decide +kernel
theorem dX2_put_24 : decode cX2_put 24 = .ok (.getfield 37, 3) := by decide +kernel
theorem dX2_put_27 : decode cX2_put 27 = .ok (.iconst 1, 1) := by decide +kernel
theorem dX2_put_28 : decode cX2_put 28 = .ok (.iadd, 1) := by decide +kernel
theorem dX2_put_29 : decode cX2_put 29 = .ok (.putfield 37, 3) := by decide +kernel
theorem dX2_put_32 : decode cX2_put 32 = .ok (.return_, 1) := by decide +kernel
theorem dX2_addLine_0 : decode cX2_addLine 0 = .ok (.aload_n 0, 1) := by decide +kernel
theorem dX2_addLine_1 : decode cX2_addLine 1 = .ok (.getfield 33, 3) := by decide +kernel
theorem dX2_addLine_4 : decode cX2_addLine 4 = .ok (.ifCond .lt 65, 3) := by decide +kernel
theorem dX2_addLine_7 : decode cX2_addLine 7 = .ok (.aload_n 0, 1) := by decide +kernel
theorem dX2_addLine_8 : decode cX2_addLine 8 = .ok (.getfield 33, 3) := by decide +kernel
theorem dX2_addLine_11 : decode cX2_addLine 11 = .ok (.bipush 12, 2) := by decide +kernel
theorem dX2_addLine_13 : decode cX2_addLine 13 = .ok (.if_icmp .ge 56, 3) := by decide +kernel
theorem dX2_addLine_16 : decode cX2_addLine 16 = .ok (.aload_n 0, 1) := by decide +kernel
theorem dX2_addLine_17 : decode cX2_addLine 17 = .ok (.getfield 9, 3) := by decide +kernel
theorem dX2_addLine_20 : decode cX2_addLine 20 = .ok (.aload_n 0, 1) := by decide +kernel
theorem dX2_addLine_21 : decode cX2_addLine 21 = .ok (.getfield 33, 3) := by decide +kernel
theorem dX2_addLine_24 : decode cX2_addLine 24 = .ok (.iload_n 1, 1) := by decide +kernel
theorem dX2_addLine_25 : decode cX2_addLine 25 = .ok (.iastore, 1) := by decide +kernel
theorem dX2_addLine_26 : decode cX2_addLine 26 = .ok (.aload_n 0, 1) := by decide +kernel
theorem dX2_addLine_27 : decode cX2_addLine 27 = .ok (.getfield 15, 3) := by decide +kernel
theorem dX2_addLine_30 : decode cX2_addLine 30 = .ok (.aload_n 0, 1) := by decide +kernel
theorem dX2_addLine_31 : decode cX2_addLine 31 = .ok (.getfield 33, 3) := by decide +kernel
theorem dX2_addLine_34 : decode cX2_addLine 34 = .ok (.iload_n 2, 1) := by decide +kernel
theorem dX2_addLine_35 : decode cX2_addLine 35 = .ok (.iastore, 1) := by decide +kernel
theorem dX2_addLine_36 : decode cX2_addLine 36 = .ok (.aload_n 0, 1) := by decide +kernel
theorem dX2_addLine_37 : decode cX2_addLine 37 = .ok (.getfield 18, 3) := by decide +kernel
theorem dX2_addLine_40 : decode cX2_addLine 40 = .ok (.aload_n 0, 1) := by decide +kernel
theorem dX2_addLine_41 : decode cX2_addLine 41 = .ok (.getfield 33, 3) := by decide +kernel
theorem dX2_addLine_44 : decode cX2_addLine 44 = .ok (.iload_n 3, 1) := by decide +kernel
theorem dX2_addLine_45 : decode cX2_addLine 45 = .ok (.iastore, 1) := by decide +kernel
theorem dX2_addLine_46 : decode cX2_addLine 46 = .ok (.aload_n 0, 1) := by decide +kernel
theorem dX2_addLine_47 : decode cX2_addLine 47 = .ok (.getfield 21, 3) := by decide +kernel
theorem dX2_addLine_50 : decode cX2_addLine 50 = .ok (.aload_n 0, 1) := by decide +kernel
theorem dX2_addLine_51 : decode cX2_addLine 51 = .ok (.getfield 33, 3) := by decide +kernel
theorem dX2_addLine_54 : decode cX2_addLine 54 = .ok (.aload_n 0, 1) := by decide +kernel
theorem dX2_addLine_55 : decode cX2_addLine 55 = .ok (.getfield 37, 3) := by decide +kernel
theorem dX2_addLine_58 : decode cX2_addLine 58 = .ok (.iastore, 1) := by decide +kernel
theorem dX2_addLine_59 : decode cX2_addLine 59 = .ok (.aload_n 0, 1) := by decide +kernel
theorem dX2_addLine_60 : decode cX2_addLine 60 = .ok (.dup, 1) := by decide +kernel
theorem dX2_addLine_61 : decode cX2_addLine 61 = .ok (.getfield 33, 3) := by decide +kernel
theorem dX2_addLine_64 : decode cX2_addLine 64 = .ok (.iconst 1, 1) := by decide +kernel
theorem dX2_addLine_65 : decode cX2_addLine 65 = .ok (.iadd, 1) := by decide +kernel
theorem dX2_addLine_66 : decode cX2_addLine 66 = .ok (.putfield 33, 3) := by decide +kernel
theorem dX2_addLine_69 : decode cX2_addLine 69 = .ok (.return_, 1) := by decide +kernel
theorem dX2_sum_0 : decode cX2_sum 0 = .ok (.iconst 0, 1) := by decide +kernel
theorem dX2_sum_1 : decode cX2_sum 1 = .ok (.istore_n 2, 1) := by decide +kernel
theorem dX2_sum_2 : decode cX2_sum 2 = .ok (.iconst 0, 1) := by decide +kernel
theorem dX2_sum_3 : decode cX2_sum 3 = .ok (.istore_n 3, 1) := by decide +kernel
theorem dX2_sum_4 : decode cX2_sum 4 = .ok (.iload_n 3, 1) := by decide +kernel
theorem dX2_sum_5 : decode cX2_sum 5 = .ok (.aload_n 0, 1) := by decide +kernel
theorem dX2_sum_6 : decode cX2_sum 6 = .ok (.getfield 33, 3) := by decide +kernel
theorem dX2_sum_9 : decode cX2_sum 9 = .ok (.if_icmp .ge 53, 3) := by decide +kernel
theorem dX2_sum_12 : decode cX2_sum 12 = .ok (.iload_n 3, 1) := by decide +kernel
theorem dX2_sum_13 : decode cX2_sum 13 = .ok (.bipush 12, 2) := by decide +kernel
theorem dX2_sum_15 : decode cX2_sum 15 = .ok (.if_icmp .ge 47, 3) := by decide +kernel
theorem dX2_sum_18 : decode cX2_sum 18 = .ok (.aload_n 0, 1) := by decide +kernel
theorem dX2_sum_19 : decode cX2_sum 19 = .ok (.getfield 9, 3) := by decide +kernel
theorem dX2_sum_22 : decode cX2_sum 22 = .ok (.iload_n 3, 1) := by decide +kernel
theorem dX2_sum_23 : decode cX2_sum 23 = .ok (.iaload, 1) := by decide +kernel
theorem dX2_sum_24 : decode cX2_sum 24 = .ok (.iload_n 1, 1) := by decide +kernel
theorem dX2_sum_25 : decode cX2_sum 25 = .ok (.if_icmp .ne 31, 3) := by decide +kernel
theorem dX2_sum_28 : decode cX2_sum 28 = .ok (.aload_n 0, 1) := by decide +kernel
theorem dX2_sum_29 : decode cX2_sum 29 = .ok (.aload_n 0, 1) := by decide +kernel
theorem dX2_sum_30 : decode cX2_sum 30 = .ok (.getfield 18, 3) := by decide +kernel
theorem dX2_sum_33 : decode cX2_sum 33 = .ok (.iload_n 3, 1) := by decide +kernel
theorem dX2_sum_34 : decode cX2_sum 34 = .ok (.iaload, 1) := by decide +kernel
theorem dX2_sum_35 : decode cX2_sum 35 = .ok (.aload_n 0, 1) := by decide +kernel
theorem dX2_sum_36 : decode cX2_sum 36 = .ok (.getfield 21, 3) := by decide +kernel
theorem dX2_sum_39 : decode cX2_sum 39 = .ok (.iload_n 3, 1) := by decide +kernel
theorem dX2_sum_40 : decode cX2_sum 40 = .ok (.iaload, 1) := by decide +kernel
theorem dX2_sum_41 : decode cX2_sum 41 = .ok (.invokevirtual 44, 3) := by decide +kernel
theorem dX2_sum_44 : decode cX2_sum 44 = .ok (.ifCond .eq 12, 3) := by decide +kernel
theorem dX2_sum_47 : decode cX2_sum 47 = .ok (.iload_n 2, 1) := by decide +kernel
theorem dX2_sum_48 : decode cX2_sum 48 = .ok (.aload_n 0, 1) := by decide +kernel
theorem dX2_sum_49 : decode cX2_sum 49 = .ok (.getfield 15, 3) := by decide +kernel
theorem dX2_sum_52 : decode cX2_sum 52 = .ok (.iload_n 3, 1) := by decide +kernel
theorem dX2_sum_53 : decode cX2_sum 53 = .ok (.iaload, 1) := by decide +kernel
theorem dX2_sum_54 : decode cX2_sum 54 = .ok (.iadd, 1) := by decide +kernel
theorem dX2_sum_55 : decode cX2_sum 55 = .ok (.istore_n 2, 1) := by decide +kernel
theorem dX2_sum_56 : decode cX2_sum 56 = .ok (.iinc 3 1, 3) := by decide +kernel
theorem dX2_sum_59 : decode cX2_sum 59 = .ok (.goto (-55), 3) := by decide +kernel
theorem dX2_sum_62 : decode cX2_sum 62 = .ok (.iload_n 2, 1) := by decide +kernel
theorem dX2_sum_63 : decode cX2_sum 63 = .ok (.ireturn, 1) := by decide +kernel
theorem dX2_holds_0 : decode cX2_holds 0 = .ok (.iconst 0, 1) := by decide +kernel
theorem dX2_holds_1 : decode cX2_holds 1 = .ok (.istore_n 3, 1) := by decide +kernel
theorem dX2_holds_2 : decode cX2_holds 2 = .ok (.iload_n 1, 1) := by decide +kernel
theorem dX2_holds_3 : decode cX2_holds 3 = .ok (.istore 4, 2) := by decide +kernel
theorem dX2_holds_5 : decode cX2_holds 5 = .ok (.iload 4, 2) := by decide +kernel
theorem dX2_holds_7 : decode cX2_holds 7 = .ok (.iload_n 2, 1) := by decide +kernel
theorem dX2_holds_8 : decode cX2_holds 8 = .ok (.if_icmp .ge 153, 3) := by decide +kernel
theorem dX2_holds_11 : decode cX2_holds 11 = .ok (.aload_n 0, 1) := by decide +kernel
theorem dX2_holds_12 : decode cX2_holds 12 = .ok (.getfield 24, 3) := by decide +kernel
theorem dX2_holds_15 : decode cX2_holds 15 = .ok (.iload 4, 2) := by decide +kernel
theorem dX2_holds_17 : decode cX2_holds 17 = .ok (.invokestatic 48, 3) := by decide +kernel
theorem dX2_holds_20 : decode cX2_holds 20 = .ok (.istore 5, 2) := by decide +kernel
theorem dX2_holds_22 : decode cX2_holds 22 = .ok (.iload 5, 2) := by decide +kernel
theorem dX2_holds_24 : decode cX2_holds 24 = .ok (.sipush 1027, 3) := by decide +kernel
theorem dX2_holds_27 : decode cX2_holds 27 = .ok (.if_icmp .ne 28, 3) := by decide +kernel
theorem dX2_holds_30 : decode cX2_holds 30 = .ok (.aload_n 0, 1) := by decide +kernel
theorem dX2_holds_31 : decode cX2_holds 31 = .ok (.getfield 30, 3) := by decide +kernel
theorem dX2_holds_34 : decode cX2_holds 34 = .ok (.iload_n 3, 1) := by decide +kernel
theorem dX2_holds_35 : decode cX2_holds 35 = .ok (.iconst 1, 1) := by decide +kernel
theorem dX2_holds_36 : decode cX2_holds 36 = .ok (.isub, 1) := by decide +kernel
theorem dX2_holds_37 : decode cX2_holds 37 = .ok (.iconst 1, 1) := by decide +kernel
theorem dX2_holds_38 : decode cX2_holds 38 = .ok (.aload_n 0, 1) := by decide +kernel
theorem dX2_holds_39 : decode cX2_holds 39 = .ok (.getfield 30, 3) := by decide +kernel
theorem dX2_holds_42 : decode cX2_holds 42 = .ok (.iload_n 3, 1) := by decide +kernel
theorem dX2_holds_43 : decode cX2_holds 43 = .ok (.iconst 1, 1) := by decide +kernel
theorem dX2_holds_44 : decode cX2_holds 44 = .ok (.isub, 1) := by decide +kernel
theorem dX2_holds_45 : decode cX2_holds 45 = .ok (.invokestatic 48, 3) := by decide +kernel
theorem dX2_holds_48 : decode cX2_holds 48 = .ok (.isub, 1) := by decide +kernel
theorem dX2_holds_49 : decode cX2_holds 49 = .ok (.invokestatic 52, 3) := by decide +kernel
theorem dX2_holds_52 : decode cX2_holds 52 = .ok (.goto 103, 3) := by decide +kernel
theorem dX2_holds_55 : decode cX2_holds 55 = .ok (.iload 5, 2) := by decide +kernel
theorem dX2_holds_57 : decode cX2_holds 57 = .ok (.sipush 1028, 3) := by decide +kernel
theorem dX2_holds_60 : decode cX2_holds 60 = .ok (.if_icmp .eq 19, 3) := by decide +kernel
theorem dX2_holds_63 : decode cX2_holds 63 = .ok (.iload 5, 2) := by decide +kernel
theorem dX2_holds_65 : decode cX2_holds 65 = .ok (.sipush 1029, 3) := by decide +kernel
theorem dX2_holds_68 : decode cX2_holds 68 = .ok (.if_icmp .eq 11, 3) := by decide +kernel
theorem dX2_holds_71 : decode cX2_holds 71 = .ok (.iload 5, 2) := by decide +kernel
theorem dX2_holds_73 : decode cX2_holds 73 = .ok (.sipush 2000, 3) := by decide +kernel
theorem dX2_holds_76 : decode cX2_holds 76 = .ok (.if_icmp .lt 42, 3) := by decide +kernel
theorem dX2_holds_79 : decode cX2_holds 79 = .ok (.iinc 3 (-1), 3) := by decide +kernel
theorem dX2_holds_82 : decode cX2_holds 82 = .ok (.aload_n 0, 1) := by decide +kernel
theorem dX2_holds_83 : decode cX2_holds 83 = .ok (.getfield 30, 3) := by decide +kernel
theorem dX2_holds_86 : decode cX2_holds 86 = .ok (.iload_n 3, 1) := by decide +kernel
theorem dX2_holds_87 : decode cX2_holds 87 = .ok (.iconst 1, 1) := by decide +kernel
theorem dX2_holds_88 : decode cX2_holds 88 = .ok (.isub, 1) := by decide +kernel
theorem dX2_holds_89 : decode cX2_holds 89 = .ok (.iload 5, 2) := by decide +kernel
theorem dX2_holds_91 : decode cX2_holds 91 = .ok (.aload_n 0, 1) := by decide +kernel
theorem dX2_holds_92 : decode cX2_holds 92 = .ok (.getfield 30, 3) := by decide +kernel
theorem dX2_holds_95 : decode cX2_holds 95 = .ok (.iload_n 3, 1) := by decide +kernel
theorem dX2_holds_96 : decode cX2_holds 96 = .ok (.iconst 1, 1) := by decide +kernel
theorem dX2_holds_97 : decode cX2_holds 97 = .ok (.isub, 1) := by decide +kernel
theorem dX2_holds_98 : decode cX2_holds 98 = .ok (.invokestatic 48, 3) := by decide +kernel
theorem dX2_holds_101 : decode cX2_holds 101 = .ok (.aload_n 0, 1) := by decide +kernel
theorem dX2_holds_102 : decode cX2_holds 102 = .ok (.getfield 30, 3) := by decide +kernel
theorem dX2_holds_105 : decode cX2_holds 105 = .ok (.iload_n 3, 1) := by decide +kernel
theorem dX2_holds_106 : decode cX2_holds 106 = .ok (.invokestatic 48, 3) := by decide +kernel
theorem dX2_holds_109 : decode cX2_holds 109 = .ok (.invokestatic 56, 3) := by decide +kernel
theorem dX2_holds_112 : decode cX2_holds 112 = .ok (.invokestatic 52, 3) := by decide +kernel
theorem dX2_holds_115 : decode cX2_holds 115 = .ok (.goto 40, 3) := by decide +kernel
theorem dX2_holds_118 : decode cX2_holds 118 = .ok (.aload_n 0, 1) := by decide +kernel
theorem dX2_holds_119 : decode cX2_holds 119 = .ok (.getfield 30, 3) := by decide +kernel
theorem dX2_holds_122 : decode cX2_holds 122 = .ok (.iload_n 3, 1) := by decide +kernel
theorem dX2_holds_123 : decode cX2_holds 123 = .ok (.iload 5, 2) := by decide +kernel
theorem dX2_holds_125 : decode cX2_holds 125 = .ok (.sipush 1000, 3) := by decide +kernel
theorem dX2_holds_128 : decode cX2_holds 128 = .ok (.if_icmp .ge 8, 3) := by decide +kernel
theorem dX2_holds_131 : decode cX2_holds 131 = .ok (.iload 5, 2) := by decide +kernel
theorem dX2_holds_133 : decode cX2_holds 133 = .ok (.goto 16, 3) := by decide +kernel
theorem dX2_holds_136 : decode cX2_holds 136 = .ok (.aload_n 0, 1) := by decide +kernel
theorem dX2_holds_137 : decode cX2_holds 137 = .ok (.getfield 27, 3) := by decide +kernel
theorem dX2_holds_140 : decode cX2_holds 140 = .ok (.iload 5, 2) := by decide +kernel
theorem dX2_holds_142 : decode cX2_holds 142 = .ok (.sipush 1012, 3) := by decide +kernel
theorem dX2_holds_145 : decode cX2_holds 145 = .ok (.isub, 1) := by decide +kernel
theorem dX2_holds_146 : decode cX2_holds 146 = .ok (.invokestatic 48, 3) := by decide +kernel
theorem dX2_holds_149 : decode cX2_holds 149 = .ok (.invokestatic 52, 3) := by decide +kernel
theorem dX2_holds_152 : decode cX2_holds 152 = .ok (.iinc 3 1, 3) := by decide +kernel
theorem dX2_holds_155 : decode cX2_holds 155 = .ok (.iinc 4 1, 3) := by decide +kernel
theorem dX2_holds_158 : decode cX2_holds 158 = .ok (.goto (-153), 3) := by decide +kernel
theorem dX2_holds_161 : decode cX2_holds 161 = .ok (.iload_n 3, 1) := by decide +kernel
theorem dX2_holds_162 : decode cX2_holds 162 = .ok (.ifCond .le 16, 3) := by decide +kernel
theorem dX2_holds_165 : decode cX2_holds 165 = .ok (.aload_n 0, 1) := by decide +kernel
theorem dX2_holds_166 : decode cX2_holds 166 = .ok (.getfield 30, 3) := by decide +kernel
theorem dX2_holds_169 : decode cX2_holds 169 = .ok (.iload_n 3, 1) := by decide +kernel
theorem dX2_holds_170 : decode cX2_holds 170 = .ok (.iconst 1, 1) := by decide +kernel
theorem dX2_holds_171 : decode cX2_holds 171 = .ok (.isub, 1) := by decide +kernel
theorem dX2_holds_172 : decode cX2_holds 172 = .ok (.invokestatic 48, 3) := by decide +kernel
theorem dX2_holds_175 : decode cX2_holds 175 = .ok (.ifCond .eq 7, 3) := by decide +kernel
theorem dX2_holds_178 : decode cX2_holds 178 = .ok (.iconst 1, 1) := by decide +kernel
theorem dX2_holds_179 : decode cX2_holds 179 = .ok (.goto 4, 3) := by decide +kernel
theorem dX2_holds_182 : decode cX2_holds 182 = .ok (.iconst 0, 1) := by decide +kernel
theorem dX2_holds_183 : decode cX2_holds 183 = .ok (.ireturn, 1) := by decide +kernel
theorem dX2_joined_0 : decode cX2_joined 0 = .ok (.iload_n 0, 1) := by decide +kernel
theorem dX2_joined_1 : decode cX2_joined 1 = .ok (.lookupswitch 73 #[(1028, 43), (1029, 47), (2060, 51), (2062, 62)], 43) := by decide +kernel
theorem dX2_joined_44 : decode cX2_joined 44 = .ok (.iload_n 1, 1) := by decide +kernel
theorem dX2_joined_45 : decode cX2_joined 45 = .ok (.iload_n 2, 1) := by decide +kernel
theorem dX2_joined_46 : decode cX2_joined 46 = .ok (.iand, 1) := by decide +kernel
theorem dX2_joined_47 : decode cX2_joined 47 = .ok (.ireturn, 1) := by decide +kernel
theorem dX2_joined_48 : decode cX2_joined 48 = .ok (.iload_n 1, 1) := by decide +kernel
theorem dX2_joined_49 : decode cX2_joined 49 = .ok (.iload_n 2, 1) := by decide +kernel
theorem dX2_joined_50 : decode cX2_joined 50 = .ok (.ior, 1) := by decide +kernel
theorem dX2_joined_51 : decode cX2_joined 51 = .ok (.ireturn, 1) := by decide +kernel
theorem dX2_joined_52 : decode cX2_joined 52 = .ok (.iload_n 1, 1) := by decide +kernel
theorem dX2_joined_53 : decode cX2_joined 53 = .ok (.iload_n 2, 1) := by decide +kernel
theorem dX2_joined_54 : decode cX2_joined 54 = .ok (.if_icmp .ge 7, 3) := by decide +kernel
theorem dX2_joined_57 : decode cX2_joined 57 = .ok (.iconst 1, 1) := by decide +kernel
theorem dX2_joined_58 : decode cX2_joined 58 = .ok (.goto 4, 3) := by decide +kernel
theorem dX2_joined_61 : decode cX2_joined 61 = .ok (.iconst 0, 1) := by decide +kernel
theorem dX2_joined_62 : decode cX2_joined 62 = .ok (.ireturn, 1) := by decide +kernel
theorem dX2_joined_63 : decode cX2_joined 63 = .ok (.iload_n 1, 1) := by decide +kernel
theorem dX2_joined_64 : decode cX2_joined 64 = .ok (.iload_n 2, 1) := by decide +kernel
theorem dX2_joined_65 : decode cX2_joined 65 = .ok (.if_icmp .le 7, 3) := by decide +kernel
theorem dX2_joined_68 : decode cX2_joined 68 = .ok (.iconst 1, 1) := by decide +kernel
theorem dX2_joined_69 : decode cX2_joined 69 = .ok (.goto 4, 3) := by decide +kernel
theorem dX2_joined_72 : decode cX2_joined 72 = .ok (.iconst 0, 1) := by decide +kernel
theorem dX2_joined_73 : decode cX2_joined 73 = .ok (.ireturn, 1) := by decide +kernel
theorem dX2_joined_74 : decode cX2_joined 74 = .ok (.iload_n 1, 1) := by decide +kernel
theorem dX2_joined_75 : decode cX2_joined 75 = .ok (.iload_n 2, 1) := by decide +kernel
theorem dX2_joined_76 : decode cX2_joined 76 = .ok (.iadd, 1) := by decide +kernel
theorem dX2_joined_77 : decode cX2_joined 77 = .ok (.ireturn, 1) := by decide +kernel
theorem dX3_init_0 : decode cX3_init 0 = .ok (.aload_n 0, 1) := by decide +kernel
theorem dX3_init_1 : decode cX3_init 1 = .ok (.invokespecial 3, 3) := by decide +kernel
theorem dX3_init_4 : decode cX3_init 4 = .ok (.aload_n 0, 1) := by decide +kernel
theorem dX3_init_5 : decode cX3_init 5 = .ok (.aload_n 1, 1) := by decide +kernel
theorem dX3_init_6 : decode cX3_init 6 = .ok (.putfield 9, 3) := by decide +kernel
theorem dX3_init_9 : decode cX3_init 9 = .ok (.return_, 1) := by decide +kernel
theorem dX3_read_0 : decode cX3_read 0 = .ok (.aload_n 1, 1) := by decide +kernel
theorem dX3_read_1 : decode cX3_read 1 = .ok (.iconst 0, 1) := by decide +kernel
theorem dX3_read_2 : decode cX3_read 2 = .ok (.putfield 15, 3) := by decide +kernel
theorem dX3_read_5 : decode cX3_read 5 = .ok (.aload_n 0, 1) := by decide +kernel
theorem dX3_read_6 : decode cX3_read 6 = .ok (.getfield 9, 3) := by decide +kernel
theorem dX3_read_9 : decode cX3_read 9 = .ok (.bipush (-3), 2) := by decide +kernel
theorem dX3_read_11 : decode cX3_read 11 = .ok (.invokevirtual 21, 3) := by decide +kernel
theorem dX3_read_14 : decode cX3_read 14 = .ok (.ifCond .eq 4, 3) := by decide +kernel
theorem dX3_read_17 : decode cX3_read 17 = .ok (.return_, 1) := by decide +kernel
theorem dX3_read_18 : decode cX3_read 18 = .ok (.iconst 0, 1) := by decide +kernel
theorem dX3_read_19 : decode cX3_read 19 = .ok (.istore_n 2, 1) := by decide +kernel
theorem dX3_read_20 : decode cX3_read 20 = .ok (.iload_n 2, 1) := by decide +kernel
theorem dX3_read_21 : decode cX3_read 21 = .ok (.bipush 12, 2) := by decide +kernel
theorem dX3_read_23 : decode cX3_read 23 = .ok (.if_icmp .ge 37, 3) := by decide +kernel
theorem dX3_read_26 : decode cX3_read 26 = .ok (.aload_n 0, 1) := by decide +kernel
theorem dX3_read_27 : decode cX3_read 27 = .ok (.aload_n 1, 1) := by decide +kernel
theorem dX3_read_28 : decode cX3_read 28 = .ok (.invokevirtual 27, 3) := by decide +kernel
theorem dX3_read_31 : decode cX3_read 31 = .ok (.aload_n 0, 1) := by decide +kernel
theorem dX3_read_32 : decode cX3_read 32 = .ok (.getfield 9, 3) := by decide +kernel
theorem dX3_read_35 : decode cX3_read 35 = .ok (.bipush (-3), 2) := by decide +kernel
theorem dX3_read_37 : decode cX3_read 37 = .ok (.invokevirtual 21, 3) := by decide +kernel
theorem dX3_read_40 : decode cX3_read 40 = .ok (.ifCond .eq 4, 3) := by decide +kernel
theorem dX3_read_43 : decode cX3_read 43 = .ok (.return_, 1) := by decide +kernel
theorem dX3_read_44 : decode cX3_read 44 = .ok (.aload_n 0, 1) := by decide +kernel
theorem dX3_read_45 : decode cX3_read 45 = .ok (.getfield 9, 3) := by decide +kernel
theorem dX3_read_48 : decode cX3_read 48 = .ok (.sipush 2059, 3) := by decide +kernel
theorem dX3_read_51 : decode cX3_read 51 = .ok (.invokevirtual 31, 3) := by decide +kernel
theorem dX3_read_54 : decode cX3_read 54 = .ok (.iinc 2 1, 3) := by decide +kernel
theorem dX3_read_57 : decode cX3_read 57 = .ok (.goto (-37), 3) := by decide +kernel
theorem dX3_read_60 : decode cX3_read 60 = .ok (.aload_n 0, 1) := by decide +kernel
theorem dX3_read_61 : decode cX3_read 61 = .ok (.getfield 9, 3) := by decide +kernel
theorem dX3_read_64 : decode cX3_read 64 = .ok (.invokevirtual 35, 3) := by decide +kernel
theorem dX3_read_67 : decode cX3_read 67 = .ok (.return_, 1) := by decide +kernel
theorem dX3_readLine_0 : decode cX3_readLine 0 = .ok (.sipush 1023, 3) := by decide +kernel
theorem dX3_readLine_3 : decode cX3_readLine 3 = .ok (.aload_n 0, 1) := by decide +kernel
theorem dX3_readLine_4 : decode cX3_readLine 4 = .ok (.getfield 9, 3) := by decide +kernel
theorem dX3_readLine_7 : decode cX3_readLine 7 = .ok (.sipush 1023, 3) := by decide +kernel
theorem dX3_readLine_10 : decode cX3_readLine 10 = .ok (.iconst 3, 1) := by decide +kernel
theorem dX3_readLine_11 : decode cX3_readLine 11 = .ok (.invokevirtual 38, 3) := by decide +kernel
theorem dX3_readLine_14 : decode cX3_readLine 14 = .ok (.iadd, 1) := by decide +kernel
theorem dX3_readLine_15 : decode cX3_readLine 15 = .ok (.istore_n 2, 1) := by decide +kernel
theorem dX3_readLine_16 : decode cX3_readLine 16 = .ok (.aload_n 0, 1) := by decide +kernel
theorem dX3_readLine_17 : decode cX3_readLine 17 = .ok (.getfield 9, 3) := by decide +kernel
theorem dX3_readLine_20 : decode cX3_readLine 20 = .ok (.bipush 100, 2) := by decide +kernel
theorem dX3_readLine_22 : decode cX3_readLine 22 = .ok (.invokevirtual 42, 3) := by decide +kernel
theorem dX3_readLine_25 : decode cX3_readLine 25 = .ok (.istore_n 3, 1) := by decide +kernel
theorem dX3_readLine_26 : decode cX3_readLine 26 = .ok (.aload_n 1, 1) := by decide +kernel
theorem dX3_readLine_27 : decode cX3_readLine 27 = .ok (.getfield 46, 3) := by decide +kernel
theorem dX3_readLine_30 : decode cX3_readLine 30 = .ok (.istore 4, 2) := by decide +kernel
theorem dX3_readLine_32 : decode cX3_readLine 32 = .ok (.aload_n 0, 1) := by decide +kernel
theorem dX3_readLine_33 : decode cX3_readLine 33 = .ok (.getfield 9, 3) := by decide +kernel
theorem dX3_readLine_36 : decode cX3_readLine 36 = .ok (.sipush 1026, 3) := by decide +kernel
theorem dX3_readLine_39 : decode cX3_readLine 39 = .ok (.invokevirtual 49, 3) := by decide +kernel
theorem dX3_readLine_42 : decode cX3_readLine 42 = .ok (.ifCond .eq 9, 3) := by decide +kernel
theorem dX3_readLine_45 : decode cX3_readLine 45 = .ok (.aload_n 0, 1) := by decide +kernel
theorem dX3_readLine_46 : decode cX3_readLine 46 = .ok (.aload_n 1, 1) := by decide +kernel
theorem dX3_readLine_47 : decode cX3_readLine 47 = .ok (.iconst 0, 1) := by decide +kernel
theorem dX3_readLine_48 : decode cX3_readLine 48 = .ok (.invokevirtual 52, 3) := by decide +kernel
theorem dX3_readLine_51 : decode cX3_readLine 51 = .ok (.aload_n 1, 1) := by decide +kernel
theorem dX3_readLine_52 : decode cX3_readLine 52 = .ok (.iload_n 2, 1) := by decide +kernel
theorem dX3_readLine_53 : decode cX3_readLine 53 = .ok (.iload_n 3, 1) := by decide +kernel
theorem dX3_readLine_54 : decode cX3_readLine 54 = .ok (.iload 4, 2) := by decide +kernel
theorem dX3_readLine_56 : decode cX3_readLine 56 = .ok (.invokevirtual 56, 3) := by decide +kernel
theorem dX3_readLine_59 : decode cX3_readLine 59 = .ok (.return_, 1) := by decide +kernel
theorem dX3_readCondition_0 : decode cX3_readCondition 0 = .ok (.aload_n 0, 1) := by decide +kernel
theorem dX3_readCondition_1 : decode cX3_readCondition 1 = .ok (.aload_n 1, 1) := by decide +kernel
theorem dX3_readCondition_2 : decode cX3_readCondition 2 = .ok (.iload_n 2, 1) := by decide +kernel
theorem dX3_readCondition_3 : decode cX3_readCondition 3 = .ok (.invokevirtual 60, 3) := by decide +kernel
theorem dX3_readCondition_6 : decode cX3_readCondition 6 = .ok (.iconst 0, 1) := by decide +kernel
theorem dX3_readCondition_7 : decode cX3_readCondition 7 = .ok (.istore_n 3, 1) := by decide +kernel
theorem dX3_readCondition_8 : decode cX3_readCondition 8 = .ok (.iconst 0, 1) := by decide +kernel
theorem dX3_readCondition_9 : decode cX3_readCondition 9 = .ok (.istore 4, 2) := by decide +kernel
theorem dX3_readCondition_11 : decode cX3_readCondition 11 = .ok (.iload 4, 2) := by decide +kernel
theorem dX3_readCondition_13 : decode cX3_readCondition 13 = .ok (.sipush 400, 3) := by decide +kernel
theorem dX3_readCondition_16 : decode cX3_readCondition 16 = .ok (.if_icmp .ge 70, 3) := by decide +kernel
theorem dX3_readCondition_19 : decode cX3_readCondition 19 = .ok (.aload_n 0, 1) := by decide +kernel
theorem dX3_readCondition_20 : decode cX3_readCondition 20 = .ok (.getfield 9, 3) := by decide +kernel
theorem dX3_readCondition_23 : decode cX3_readCondition 23 = .ok (.sipush 1028, 3) := by decide +kernel
theorem dX3_readCondition_26 : decode cX3_readCondition 26 = .ok (.invokevirtual 49, 3) := by decide +kernel
theorem dX3_readCondition_29 : decode cX3_readCondition 29 = .ok (.ifCond .eq 19, 3) := by decide +kernel
theorem dX3_readCondition_32 : decode cX3_readCondition 32 = .ok (.aload_n 0, 1) := by decide +kernel
theorem dX3_readCondition_33 : decode cX3_readCondition 33 = .ok (.aload_n 1, 1) := by decide +kernel
theorem dX3_readCondition_34 : decode cX3_readCondition 34 = .ok (.iload_n 2, 1) := by decide +kernel
theorem dX3_readCondition_35 : decode cX3_readCondition 35 = .ok (.invokevirtual 60, 3) := by decide +kernel
theorem dX3_readCondition_38 : decode cX3_readCondition 38 = .ok (.aload_n 1, 1) := by decide +kernel
theorem dX3_readCondition_39 : decode cX3_readCondition 39 = .ok (.sipush 1028, 3) := by decide +kernel
theorem dX3_readCondition_42 : decode cX3_readCondition 42 = .ok (.invokevirtual 63, 3) := by decide +kernel
theorem dX3_readCondition_45 : decode cX3_readCondition 45 = .ok (.goto 35, 3) := by decide +kernel
theorem dX3_readCondition_48 : decode cX3_readCondition 48 = .ok (.aload_n 0, 1) := by decide +kernel
theorem dX3_readCondition_49 : decode cX3_readCondition 49 = .ok (.getfield 9, 3) := by decide +kernel
theorem dX3_readCondition_52 : decode cX3_readCondition 52 = .ok (.sipush 1029, 3) := by decide +kernel
theorem dX3_readCondition_55 : decode cX3_readCondition 55 = .ok (.invokevirtual 49, 3) := by decide +kernel
theorem dX3_readCondition_58 : decode cX3_readCondition 58 = .ok (.ifCond .eq 28, 3) := by decide +kernel
theorem dX3_readCondition_61 : decode cX3_readCondition 61 = .ok (.iload_n 3, 1) := by decide +kernel
theorem dX3_readCondition_62 : decode cX3_readCondition 62 = .ok (.ifCond .eq 10, 3) := by decide +kernel
theorem dX3_readCondition_65 : decode cX3_readCondition 65 = .ok (.aload_n 1, 1) := by decide +kernel
theorem dX3_readCondition_66 : decode cX3_readCondition 66 = .ok (.sipush 1029, 3) := by decide +kernel
theorem dX3_readCondition_69 : decode cX3_readCondition 69 = .ok (.invokevirtual 63, 3) := by decide +kernel
theorem dX3_readCondition_72 : decode cX3_readCondition 72 = .ok (.iconst 1, 1) := by decide +kernel
theorem dX3_readCondition_73 : decode cX3_readCondition 73 = .ok (.istore_n 3, 1) := by decide +kernel
theorem dX3_readCondition_74 : decode cX3_readCondition 74 = .ok (.aload_n 0, 1) := by decide +kernel
theorem dX3_readCondition_75 : decode cX3_readCondition 75 = .ok (.aload_n 1, 1) := by decide +kernel
theorem dX3_readCondition_76 : decode cX3_readCondition 76 = .ok (.iload_n 2, 1) := by decide +kernel
theorem dX3_readCondition_77 : decode cX3_readCondition 77 = .ok (.invokevirtual 60, 3) := by decide +kernel
theorem dX3_readCondition_80 : decode cX3_readCondition 80 = .ok (.iinc 4 1, 3) := by decide +kernel
theorem dX3_readCondition_83 : decode cX3_readCondition 83 = .ok (.goto (-72), 3) := by decide +kernel
theorem dX3_readCondition_86 : decode cX3_readCondition 86 = .ok (.iload_n 3, 1) := by decide +kernel
theorem dX3_readCondition_87 : decode cX3_readCondition 87 = .ok (.ifCond .eq 10, 3) := by decide +kernel
theorem dX3_readCondition_90 : decode cX3_readCondition 90 = .ok (.aload_n 1, 1) := by decide +kernel
theorem dX3_readCondition_91 : decode cX3_readCondition 91 = .ok (.sipush 1029, 3) := by decide +kernel
theorem dX3_readCondition_94 : decode cX3_readCondition 94 = .ok (.invokevirtual 63, 3) := by decide +kernel
theorem dX3_readCondition_97 : decode cX3_readCondition 97 = .ok (.return_, 1) := by decide +kernel
theorem dX3_readAtom_0 : decode cX3_readAtom 0 = .ok (.iload_n 2, 1) := by decide +kernel
theorem dX3_readAtom_1 : decode cX3_readAtom 1 = .ok (.istore_n 3, 1) := by decide +kernel
theorem dX3_readAtom_2 : decode cX3_readAtom 2 = .ok (.iload_n 3, 1) := by decide +kernel
theorem dX3_readAtom_3 : decode cX3_readAtom 3 = .ok (.bipush 6, 2) := by decide +kernel
theorem dX3_readAtom_5 : decode cX3_readAtom 5 = .ok (.if_icmp .ge 22, 3) := by decide +kernel
theorem dX3_readAtom_8 : decode cX3_readAtom 8 = .ok (.aload_n 0, 1) := by decide +kernel
theorem dX3_readAtom_9 : decode cX3_readAtom 9 = .ok (.getfield 9, 3) := by decide +kernel
theorem dX3_readAtom_12 : decode cX3_readAtom 12 = .ok (.sipush 1027, 3) := by decide +kernel
theorem dX3_readAtom_15 : decode cX3_readAtom 15 = .ok (.invokevirtual 49, 3) := by decide +kernel
theorem dX3_readAtom_18 : decode cX3_readAtom 18 = .ok (.ifCond .eq 9, 3) := by decide +kernel
theorem dX3_readAtom_21 : decode cX3_readAtom 21 = .ok (.iinc 3 1, 3) := by decide +kernel
theorem dX3_readAtom_24 : decode cX3_readAtom 24 = .ok (.goto (-22), 3) := by decide +kernel
theorem dX3_readAtom_27 : decode cX3_readAtom 27 = .ok (.iload_n 3, 1) := by decide +kernel
theorem dX3_readAtom_28 : decode cX3_readAtom 28 = .ok (.bipush 6, 2) := by decide +kernel
theorem dX3_readAtom_30 : decode cX3_readAtom 30 = .ok (.if_icmp .lt 36, 3) := by decide +kernel
theorem dX3_readAtom_33 : decode cX3_readAtom 33 = .ok (.aload_n 0, 1) := by decide +kernel
theorem dX3_readAtom_34 : decode cX3_readAtom 34 = .ok (.getfield 9, 3) := by decide +kernel
theorem dX3_readAtom_37 : decode cX3_readAtom 37 = .ok (.sipush 1027, 3) := by decide +kernel
theorem dX3_readAtom_40 : decode cX3_readAtom 40 = .ok (.invokevirtual 21, 3) := by decide +kernel
theorem dX3_readAtom_43 : decode cX3_readAtom 43 = .ok (.ifCond .ne 16, 3) := by decide +kernel
theorem dX3_readAtom_46 : decode cX3_readAtom 46 = .ok (.aload_n 0, 1) := by decide +kernel
theorem dX3_readAtom_47 : decode cX3_readAtom 47 = .ok (.getfield 9, 3) := by decide +kernel
theorem dX3_readAtom_50 : decode cX3_readAtom 50 = .ok (.sipush 2040, 3) := by decide +kernel
theorem dX3_readAtom_53 : decode cX3_readAtom 53 = .ok (.invokevirtual 21, 3) := by decide +kernel
theorem dX3_readAtom_56 : decode cX3_readAtom 56 = .ok (.ifCond .eq 10, 3) := by decide +kernel
theorem dX3_readAtom_59 : decode cX3_readAtom 59 = .ok (.aload_n 0, 1) := by decide +kernel
theorem dX3_readAtom_60 : decode cX3_readAtom 60 = .ok (.getfield 9, 3) := by decide +kernel
theorem dX3_readAtom_63 : decode cX3_readAtom 63 = .ok (.invokevirtual 35, 3) := by decide +kernel
theorem dX3_readAtom_66 : decode cX3_readAtom 66 = .ok (.aload_n 0, 1) := by decide +kernel
theorem dX3_readAtom_67 : decode cX3_readAtom 67 = .ok (.getfield 9, 3) := by decide +kernel
theorem dX3_readAtom_70 : decode cX3_readAtom 70 = .ok (.sipush 2040, 3) := by decide +kernel
theorem dX3_readAtom_73 : decode cX3_readAtom 73 = .ok (.invokevirtual 49, 3) := by decide +kernel
theorem dX3_readAtom_76 : decode cX3_readAtom 76 = .ok (.ifCond .eq 24, 3) := by decide +kernel
theorem dX3_readAtom_79 : decode cX3_readAtom 79 = .ok (.aload_n 0, 1) := by decide +kernel
theorem dX3_readAtom_80 : decode cX3_readAtom 80 = .ok (.aload_n 1, 1) := by decide +kernel
theorem dX3_readAtom_81 : decode cX3_readAtom 81 = .ok (.iload_n 3, 1) := by decide +kernel
theorem dX3_readAtom_82 : decode cX3_readAtom 82 = .ok (.iconst 1, 1) := by decide +kernel
theorem dX3_readAtom_83 : decode cX3_readAtom 83 = .ok (.iadd, 1) := by decide +kernel
theorem dX3_readAtom_84 : decode cX3_readAtom 84 = .ok (.invokevirtual 52, 3) := by decide +kernel
theorem dX3_readAtom_87 : decode cX3_readAtom 87 = .ok (.aload_n 0, 1) := by decide +kernel
theorem dX3_readAtom_88 : decode cX3_readAtom 88 = .ok (.getfield 9, 3) := by decide +kernel
theorem dX3_readAtom_91 : decode cX3_readAtom 91 = .ok (.sipush 2041, 3) := by decide +kernel
theorem dX3_readAtom_94 : decode cX3_readAtom 94 = .ok (.invokevirtual 31, 3) := by decide +kernel
theorem dX3_readAtom_97 : decode cX3_readAtom 97 = .ok (.goto 122, 3) := by decide +kernel
theorem dX3_readAtom_100 : decode cX3_readAtom 100 = .ok (.aload_n 0, 1) := by decide +kernel
theorem dX3_readAtom_101 : decode cX3_readAtom 101 = .ok (.getfield 9, 3) := by decide +kernel
theorem dX3_readAtom_104 : decode cX3_readAtom 104 = .ok (.sipush 1020, 3) := by decide +kernel
theorem dX3_readAtom_107 : decode cX3_readAtom 107 = .ok (.invokevirtual 21, 3) := by decide +kernel
theorem dX3_readAtom_110 : decode cX3_readAtom 110 = .ok (.ifCond .ne 29, 3) := by decide +kernel
theorem dX3_readAtom_113 : decode cX3_readAtom 113 = .ok (.aload_n 0, 1) := by decide +kernel
theorem dX3_readAtom_114 : decode cX3_readAtom 114 = .ok (.getfield 9, 3) := by decide +kernel
theorem dX3_readAtom_117 : decode cX3_readAtom 117 = .ok (.sipush 1021, 3) := by decide +kernel
theorem dX3_readAtom_120 : decode cX3_readAtom 120 = .ok (.invokevirtual 21, 3) := by decide +kernel
theorem dX3_readAtom_123 : decode cX3_readAtom 123 = .ok (.ifCond .ne 16, 3) := by decide +kernel
theorem dX3_readAtom_126 : decode cX3_readAtom 126 = .ok (.aload_n 0, 1) := by decide +kernel
theorem dX3_readAtom_127 : decode cX3_readAtom 127 = .ok (.getfield 9, 3) := by decide +kernel
theorem dX3_readAtom_130 : decode cX3_readAtom 130 = .ok (.sipush 1022, 3) := by decide +kernel
theorem dX3_readAtom_133 : decode cX3_readAtom 133 = .ok (.invokevirtual 21, 3) := by decide +kernel
theorem dX3_readAtom_136 : decode cX3_readAtom 136 = .ok (.ifCond .eq 25, 3) := by decide +kernel
theorem dX3_readAtom_139 : decode cX3_readAtom 139 = .ok (.aload_n 1, 1) := by decide +kernel
theorem dX3_readAtom_140 : decode cX3_readAtom 140 = .ok (.sipush 1020, 3) := by decide +kernel
theorem dX3_readAtom_143 : decode cX3_readAtom 143 = .ok (.aload_n 0, 1) := by decide +kernel
theorem dX3_readAtom_144 : decode cX3_readAtom 144 = .ok (.getfield 9, 3) := by decide +kernel
theorem dX3_readAtom_147 : decode cX3_readAtom 147 = .ok (.sipush 1020, 3) := by decide +kernel
theorem dX3_readAtom_150 : decode cX3_readAtom 150 = .ok (.iconst 3, 1) := by decide +kernel
theorem dX3_readAtom_151 : decode cX3_readAtom 151 = .ok (.invokevirtual 38, 3) := by decide +kernel
theorem dX3_readAtom_154 : decode cX3_readAtom 154 = .ok (.iadd, 1) := by decide +kernel
theorem dX3_readAtom_155 : decode cX3_readAtom 155 = .ok (.invokevirtual 63, 3) := by decide +kernel
theorem dX3_readAtom_158 : decode cX3_readAtom 158 = .ok (.goto 61, 3) := by decide +kernel
theorem dX3_readAtom_161 : decode cX3_readAtom 161 = .ok (.aload_n 0, 1) := by decide +kernel
theorem dX3_readAtom_162 : decode cX3_readAtom 162 = .ok (.aload_n 1, 1) := by decide +kernel
theorem dX3_readAtom_163 : decode cX3_readAtom 163 = .ok (.invokevirtual 66, 3) := by decide +kernel
theorem dX3_readAtom_166 : decode cX3_readAtom 166 = .ok (.aload_n 0, 1) := by decide +kernel
theorem dX3_readAtom_167 : decode cX3_readAtom 167 = .ok (.getfield 9, 3) := by decide +kernel
theorem dX3_readAtom_170 : decode cX3_readAtom 170 = .ok (.sipush 2062, 3) := by decide +kernel
theorem dX3_readAtom_173 : decode cX3_readAtom 173 = .ok (.invokevirtual 49, 3) := by decide +kernel
theorem dX3_readAtom_176 : decode cX3_readAtom 176 = .ok (.ifCond .eq 9, 3) := by decide +kernel
theorem dX3_readAtom_179 : decode cX3_readAtom 179 = .ok (.sipush 2062, 3) := by decide +kernel
theorem dX3_readAtom_182 : decode cX3_readAtom 182 = .ok (.goto 6, 3) := by decide +kernel
theorem dX3_readAtom_185 : decode cX3_readAtom 185 = .ok (.sipush 2060, 3) := by decide +kernel
theorem dX3_readAtom_188 : decode cX3_readAtom 188 = .ok (.istore 4, 2) := by decide +kernel
theorem dX3_readAtom_190 : decode cX3_readAtom 190 = .ok (.iload 4, 2) := by decide +kernel
theorem dX3_readAtom_192 : decode cX3_readAtom 192 = .ok (.sipush 2060, 3) := by decide +kernel
theorem dX3_readAtom_195 : decode cX3_readAtom 195 = .ok (.if_icmp .ne 13, 3) := by decide +kernel
theorem dX3_readAtom_198 : decode cX3_readAtom 198 = .ok (.aload_n 0, 1) := by decide +kernel
theorem dX3_readAtom_199 : decode cX3_readAtom 199 = .ok (.getfield 9, 3) := by decide +kernel
theorem dX3_readAtom_202 : decode cX3_readAtom 202 = .ok (.sipush 2060, 3) := by decide +kernel
theorem dX3_readAtom_205 : decode cX3_readAtom 205 = .ok (.invokevirtual 31, 3) := by decide +kernel
theorem dX3_readAtom_208 : decode cX3_readAtom 208 = .ok (.aload_n 0, 1) := by decide +kernel
theorem dX3_readAtom_209 : decode cX3_readAtom 209 = .ok (.aload_n 1, 1) := by decide +kernel
theorem dX3_readAtom_210 : decode cX3_readAtom 210 = .ok (.invokevirtual 66, 3) := by decide +kernel
theorem dX3_readAtom_213 : decode cX3_readAtom 213 = .ok (.aload_n 1, 1) := by decide +kernel
theorem dX3_readAtom_214 : decode cX3_readAtom 214 = .ok (.iload 4, 2) := by decide +kernel
theorem dX3_readAtom_216 : decode cX3_readAtom 216 = .ok (.invokevirtual 63, 3) := by decide +kernel
theorem dX3_readAtom_219 : decode cX3_readAtom 219 = .ok (.iload_n 2, 1) := by decide +kernel
theorem dX3_readAtom_220 : decode cX3_readAtom 220 = .ok (.istore 4, 2) := by decide +kernel
theorem dX3_readAtom_222 : decode cX3_readAtom 222 = .ok (.iload 4, 2) := by decide +kernel
theorem dX3_readAtom_224 : decode cX3_readAtom 224 = .ok (.iload_n 3, 1) := by decide +kernel
theorem dX3_readAtom_225 : decode cX3_readAtom 225 = .ok (.if_icmp .ge 16, 3) := by decide +kernel
theorem dX3_readAtom_228 : decode cX3_readAtom 228 = .ok (.aload_n 1, 1) := by decide +kernel
theorem dX3_readAtom_229 : decode cX3_readAtom 229 = .ok (.sipush 1027, 3) := by decide +kernel
theorem dX3_readAtom_232 : decode cX3_readAtom 232 = .ok (.invokevirtual 63, 3) := by decide +kernel
theorem dX3_readAtom_235 : decode cX3_readAtom 235 = .ok (.iinc 4 1, 3) := by decide +kernel
theorem dX3_readAtom_238 : decode cX3_readAtom 238 = .ok (.goto (-16), 3) := by decide +kernel
theorem dX3_readAtom_241 : decode cX3_readAtom 241 = .ok (.return_, 1) := by decide +kernel
theorem dX3_readSum_0 : decode cX3_readSum 0 = .ok (.iconst 0, 1) := by decide +kernel
theorem dX3_readSum_1 : decode cX3_readSum 1 = .ok (.istore_n 2, 1) := by decide +kernel
theorem dX3_readSum_2 : decode cX3_readSum 2 = .ok (.iload_n 2, 1) := by decide +kernel
theorem dX3_readSum_3 : decode cX3_readSum 3 = .ok (.sipush 400, 3) := by decide +kernel
theorem dX3_readSum_6 : decode cX3_readSum 6 = .ok (.if_icmp .ge 182, 3) := by decide +kernel
theorem dX3_readSum_9 : decode cX3_readSum 9 = .ok (.aload_n 0, 1) := by decide +kernel
theorem dX3_readSum_10 : decode cX3_readSum 10 = .ok (.getfield 9, 3) := by decide +kernel
theorem dX3_readSum_13 : decode cX3_readSum 13 = .ok (.sipush 1012, 3) := by decide +kernel
theorem dX3_readSum_16 : decode cX3_readSum 16 = .ok (.invokevirtual 21, 3) := by decide +kernel
theorem dX3_readSum_19 : decode cX3_readSum 19 = .ok (.ifCond .ne 94, 3) := by decide +kernel
theorem dX3_readSum_22 : decode cX3_readSum 22 = .ok (.aload_n 0, 1) := by decide +kernel
theorem dX3_readSum_23 : decode cX3_readSum 23 = .ok (.getfield 9, 3) := by decide +kernel
theorem dX3_readSum_26 : decode cX3_readSum 26 = .ok (.sipush 1013, 3) := by decide +kernel
theorem dX3_readSum_29 : decode cX3_readSum 29 = .ok (.invokevirtual 21, 3) := by decide +kernel
theorem dX3_readSum_32 : decode cX3_readSum 32 = .ok (.ifCond .ne 81, 3) := by decide +kernel
theorem dX3_readSum_35 : decode cX3_readSum 35 = .ok (.aload_n 0, 1) := by decide +kernel
theorem dX3_readSum_36 : decode cX3_readSum 36 = .ok (.getfield 9, 3) := by decide +kernel
theorem dX3_readSum_39 : decode cX3_readSum 39 = .ok (.sipush 1014, 3) := by decide +kernel
theorem dX3_readSum_42 : decode cX3_readSum 42 = .ok (.invokevirtual 21, 3) := by decide +kernel
theorem dX3_readSum_45 : decode cX3_readSum 45 = .ok (.ifCond .ne 68, 3) := by decide +kernel
theorem dX3_readSum_48 : decode cX3_readSum 48 = .ok (.aload_n 0, 1) := by decide +kernel
theorem dX3_readSum_49 : decode cX3_readSum 49 = .ok (.getfield 9, 3) := by decide +kernel
theorem dX3_readSum_52 : decode cX3_readSum 52 = .ok (.sipush 1015, 3) := by decide +kernel
theorem dX3_readSum_55 : decode cX3_readSum 55 = .ok (.invokevirtual 21, 3) := by decide +kernel
theorem dX3_readSum_58 : decode cX3_readSum 58 = .ok (.ifCond .ne 55, 3) := by decide +kernel
theorem dX3_readSum_61 : decode cX3_readSum 61 = .ok (.aload_n 0, 1) := by decide +kernel
theorem dX3_readSum_62 : decode cX3_readSum 62 = .ok (.getfield 9, 3) := by decide +kernel
theorem dX3_readSum_65 : decode cX3_readSum 65 = .ok (.sipush 1016, 3) := by decide +kernel
theorem dX3_readSum_68 : decode cX3_readSum 68 = .ok (.invokevirtual 21, 3) := by decide +kernel
theorem dX3_readSum_71 : decode cX3_readSum 71 = .ok (.ifCond .ne 42, 3) := by decide +kernel
theorem dX3_readSum_74 : decode cX3_readSum 74 = .ok (.aload_n 0, 1) := by decide +kernel
theorem dX3_readSum_75 : decode cX3_readSum 75 = .ok (.getfield 9, 3) := by decide +kernel
theorem dX3_readSum_78 : decode cX3_readSum 78 = .ok (.sipush 1017, 3) := by decide +kernel
theorem dX3_readSum_81 : decode cX3_readSum 81 = .ok (.invokevirtual 21, 3) := by decide +kernel
theorem dX3_readSum_84 : decode cX3_readSum 84 = .ok (.ifCond .ne 29, 3) := by decide +kernel
theorem dX3_readSum_87 : decode cX3_readSum 87 = .ok (.aload_n 0, 1) := by decide +kernel
theorem dX3_readSum_88 : decode cX3_readSum 88 = .ok (.getfield 9, 3) := by decide +kernel
theorem dX3_readSum_91 : decode cX3_readSum 91 = .ok (.sipush 1018, 3) := by decide +kernel
theorem dX3_readSum_94 : decode cX3_readSum 94 = .ok (.invokevirtual 21, 3) := by decide +kernel
theorem dX3_readSum_97 : decode cX3_readSum 97 = .ok (.ifCond .ne 16, 3) := by decide +kernel
theorem dX3_readSum_100 : decode cX3_readSum 100 = .ok (.aload_n 0, 1) := by decide +kernel
theorem dX3_readSum_101 : decode cX3_readSum 101 = .ok (.getfield 9, 3) := by decide +kernel
theorem dX3_readSum_104 : decode cX3_readSum 104 = .ok (.sipush 1019, 3) := by decide +kernel
theorem dX3_readSum_107 : decode cX3_readSum 107 = .ok (.invokevirtual 21, 3) := by decide +kernel
theorem dX3_readSum_110 : decode cX3_readSum 110 = .ok (.ifCond .eq 7, 3) := by decide +kernel
theorem dX3_readSum_113 : decode cX3_readSum 113 = .ok (.iconst 1, 1) := by decide +kernel
theorem dX3_readSum_114 : decode cX3_readSum 114 = .ok (.goto 4, 3) := by decide +kernel
theorem dX3_readSum_117 : decode cX3_readSum 117 = .ok (.iconst 0, 1) := by decide +kernel
theorem dX3_readSum_118 : decode cX3_readSum 118 = .ok (.istore_n 3, 1) := by decide +kernel
theorem dX3_readSum_119 : decode cX3_readSum 119 = .ok (.aload_n 1, 1) := by decide +kernel
theorem dX3_readSum_120 : decode cX3_readSum 120 = .ok (.iload_n 3, 1) := by decide +kernel
theorem dX3_readSum_121 : decode cX3_readSum 121 = .ok (.ifCond .eq 22, 3) := by decide +kernel
theorem dX3_readSum_124 : decode cX3_readSum 124 = .ok (.sipush 1012, 3) := by decide +kernel
theorem dX3_readSum_127 : decode cX3_readSum 127 = .ok (.aload_n 0, 1) := by decide +kernel
theorem dX3_readSum_128 : decode cX3_readSum 128 = .ok (.getfield 9, 3) := by decide +kernel
theorem dX3_readSum_131 : decode cX3_readSum 131 = .ok (.sipush 1012, 3) := by decide +kernel
theorem dX3_readSum_134 : decode cX3_readSum 134 = .ok (.bipush 8, 2) := by decide +kernel
theorem dX3_readSum_136 : decode cX3_readSum 136 = .ok (.invokevirtual 38, 3) := by decide +kernel
theorem dX3_readSum_139 : decode cX3_readSum 139 = .ok (.iadd, 1) := by decide +kernel
theorem dX3_readSum_140 : decode cX3_readSum 140 = .ok (.goto 14, 3) := by decide +kernel
theorem dX3_readSum_143 : decode cX3_readSum 143 = .ok (.aload_n 0, 1) := by decide +kernel
theorem dX3_readSum_144 : decode cX3_readSum 144 = .ok (.getfield 9, 3) := by decide +kernel
theorem dX3_readSum_147 : decode cX3_readSum 147 = .ok (.iconst 0, 1) := by decide +kernel
theorem dX3_readSum_148 : decode cX3_readSum 148 = .ok (.sipush 1000, 3) := by decide +kernel
theorem dX3_readSum_151 : decode cX3_readSum 151 = .ok (.invokevirtual 38, 3) := by decide +kernel
theorem dX3_readSum_154 : decode cX3_readSum 154 = .ok (.invokevirtual 63, 3) := by decide +kernel
theorem dX3_readSum_157 : decode cX3_readSum 157 = .ok (.iload_n 2, 1) := by decide +kernel
theorem dX3_readSum_158 : decode cX3_readSum 158 = .ok (.ifCond .le 10, 3) := by decide +kernel
theorem dX3_readSum_161 : decode cX3_readSum 161 = .ok (.aload_n 1, 1) := by decide +kernel
theorem dX3_readSum_162 : decode cX3_readSum 162 = .ok (.sipush 2043, 3) := by decide +kernel
theorem dX3_readSum_165 : decode cX3_readSum 165 = .ok (.invokevirtual 63, 3) := by decide +kernel
theorem dX3_readSum_168 : decode cX3_readSum 168 = .ok (.aload_n 0, 1) := by decide +kernel
theorem dX3_readSum_169 : decode cX3_readSum 169 = .ok (.getfield 9, 3) := by decide +kernel
theorem dX3_readSum_172 : decode cX3_readSum 172 = .ok (.sipush 2043, 3) := by decide +kernel
theorem dX3_readSum_175 : decode cX3_readSum 175 = .ok (.invokevirtual 49, 3) := by decide +kernel
theorem dX3_readSum_178 : decode cX3_readSum 178 = .ok (.ifCond .ne 4, 3) := by decide +kernel
theorem dX3_readSum_181 : decode cX3_readSum 181 = .ok (.return_, 1) := by decide +kernel
theorem dX3_readSum_182 : decode cX3_readSum 182 = .ok (.iinc 2 1, 3) := by decide +kernel
theorem dX3_readSum_185 : decode cX3_readSum 185 = .ok (.goto (-183), 3) := by decide +kernel
theorem dX3_readSum_188 : decode cX3_readSum 188 = .ok (.return_, 1) := by decide +kernel
theorem dX4_init_0 : decode cX4_init 0 = .ok (.aload_n 0, 1) := by decide +kernel
theorem dX4_init_1 : decode cX4_init 1 = .ok (.invokespecial 3, 3) := by decide +kernel
theorem dX4_init_4 : decode cX4_init 4 = .ok (.aload_n 0, 1) := by decide +kernel
theorem dX4_init_5 : decode cX4_init 5 = .ok (.sipush 240, 3) := by decide +kernel
theorem dX4_init_8 : decode cX4_init 8 = .ok (.newarray .int, 2) := by decide +kernel
theorem dX4_init_10 : decode cX4_init 10 = .ok (.putfield 9, 3) := by decide +kernel
theorem dX4_init_13 : decode cX4_init 13 = .ok (.aload_n 0, 1) := by decide +kernel
theorem dX4_init_14 : decode cX4_init 14 = .ok (.iconst 0, 1) := by decide +kernel
theorem dX4_init_15 : decode cX4_init 15 = .ok (.putfield 15, 3) := by decide +kernel
theorem dX4_init_18 : decode cX4_init 18 = .ok (.aload_n 0, 1) := by decide +kernel
theorem dX4_init_19 : decode cX4_init 19 = .ok (.iconst 0, 1) := by decide +kernel
theorem dX4_init_20 : decode cX4_init 20 = .ok (.putfield 19, 3) := by decide +kernel
theorem dX4_init_23 : decode cX4_init 23 = .ok (.return_, 1) := by decide +kernel
theorem dX4_copyFrom_0 : decode cX4_copyFrom 0 = .ok (.aload_n 1, 1) := by decide +kernel
theorem dX4_copyFrom_1 : decode cX4_copyFrom 1 = .ok (.getfield 9, 3) := by decide +kernel
theorem dX4_copyFrom_4 : decode cX4_copyFrom 4 = .ok (.aload_n 0, 1) := by decide +kernel
theorem dX4_copyFrom_5 : decode cX4_copyFrom 5 = .ok (.getfield 9, 3) := by decide +kernel
theorem dX4_copyFrom_8 : decode cX4_copyFrom 8 = .ok (.invokestatic 22, 3) := by decide +kernel
theorem dX4_copyFrom_11 : decode cX4_copyFrom 11 = .ok (.aload_n 0, 1) := by decide +kernel
theorem dX4_copyFrom_12 : decode cX4_copyFrom 12 = .ok (.aload_n 1, 1) := by decide +kernel
theorem dX4_copyFrom_13 : decode cX4_copyFrom 13 = .ok (.getfield 15, 3) := by decide +kernel
theorem dX4_copyFrom_16 : decode cX4_copyFrom 16 = .ok (.putfield 15, 3) := by decide +kernel
theorem dX4_copyFrom_19 : decode cX4_copyFrom 19 = .ok (.aload_n 0, 1) := by decide +kernel
theorem dX4_copyFrom_20 : decode cX4_copyFrom 20 = .ok (.aload_n 1, 1) := by decide +kernel
theorem dX4_copyFrom_21 : decode cX4_copyFrom 21 = .ok (.getfield 19, 3) := by decide +kernel
theorem dX4_copyFrom_24 : decode cX4_copyFrom 24 = .ok (.putfield 19, 3) := by decide +kernel
theorem dX4_copyFrom_27 : decode cX4_copyFrom 27 = .ok (.return_, 1) := by decide +kernel
theorem dX4_put_0 : decode cX4_put 0 = .ok (.aload_n 0, 1) := by decide +kernel
theorem dX4_put_1 : decode cX4_put 1 = .ok (.getfield 19, 3) := by decide +kernel
theorem dX4_put_4 : decode cX4_put 4 = .ok (.iconst 4, 1) := by decide +kernel
theorem dX4_put_5 : decode cX4_put 5 = .ok (.imul, 1) := by decide +kernel
theorem dX4_put_6 : decode cX4_put 6 = .ok (.istore 5, 2) := by decide +kernel
theorem dX4_put_8 : decode cX4_put 8 = .ok (.aload_n 0, 1) := by decide +kernel
theorem dX4_put_9 : decode cX4_put 9 = .ok (.getfield 9, 3) := by decide +kernel
theorem dX4_put_12 : decode cX4_put 12 = .ok (.iload 5, 2) := by decide +kernel
theorem dX4_put_14 : decode cX4_put 14 = .ok (.iload_n 1, 1) := by decide +kernel
theorem dX4_put_15 : decode cX4_put 15 = .ok (.invokestatic 26, 3) := by decide +kernel
theorem dX4_put_18 : decode cX4_put 18 = .ok (.aload_n 0, 1) := by decide +kernel
theorem dX4_put_19 : decode cX4_put 19 = .ok (.getfield 9, 3) := by decide +kernel
theorem dX4_put_22 : decode cX4_put 22 = .ok (.iload 5, 2) := by decide +kernel
theorem dX4_put_24 : decode cX4_put 24 = .ok (.iconst 1, 1) := by decide +kernel
theorem dX4_put_25 : decode cX4_put 25 = .ok (.iadd, 1) := by decide +kernel
theorem dX4_put_26 : decode cX4_put 26 = .ok (.iload_n 2, 1) := by decide +kernel
theorem dX4_put_27 : decode cX4_put 27 = .ok (.invokestatic 26, 3) := by decide +kernel
theorem dX4_put_30 : decode cX4_put 30 = .ok (.aload_n 0, 1) := by decide +kernel
theorem dX4_put_31 : decode cX4_put 31 = .ok (.getfield 9, 3) := by decide +kernel
theorem dX4_put_34 : decode cX4_put 34 = .ok (.iload 5, 2) := by decide +kernel
theorem dX4_put_36 : decode cX4_put 36 = .ok (.iconst 2, 1) := by decide +kernel
theorem dX4_put_37 : decode cX4_put 37 = .ok (.iadd, 1) := by decide +kernel
theorem dX4_put_38 : decode cX4_put 38 = .ok (.iload_n 3, 1) := by decide +kernel
theorem dX4_put_39 : decode cX4_put 39 = .ok (.invokestatic 26, 3) := by decide +kernel
theorem dX4_put_42 : decode cX4_put 42 = .ok (.aload_n 0, 1) := by decide +kernel
theorem dX4_put_43 : decode cX4_put 43 = .ok (.getfield 9, 3) := by decide +kernel
theorem dX4_put_46 : decode cX4_put 46 = .ok (.iload 5, 2) := by decide +kernel
theorem dX4_put_48 : decode cX4_put 48 = .ok (.iconst 3, 1) := by decide +kernel
theorem dX4_put_49 : decode cX4_put 49 = .ok (.iadd, 1) := by decide +kernel
theorem dX4_put_50 : decode cX4_put 50 = .ok (.iload 4, 2) := by decide +kernel
theorem dX4_put_52 : decode cX4_put 52 = .ok (.invokestatic 26, 3) := by decide +kernel
theorem dX4_put_55 : decode cX4_put 55 = .ok (.aload_n 0, 1) := by decide +kernel
theorem dX4_put_56 : decode cX4_put 56 = .ok (.aload_n 0, 1) := by decide +kernel
theorem dX4_put_57 : decode cX4_put 57 = .ok (.getfield 19, 3) := by decide +kernel
theorem dX4_put_60 : decode cX4_put 60 = .ok (.iconst 1, 1) := by decide +kernel
theorem dX4_put_61 : decode cX4_put 61 = .ok (.iadd, 1) := by decide +kernel
theorem dX4_put_62 : decode cX4_put 62 = .ok (.bipush 60, 2) := by decide +kernel
theorem dX4_put_64 : decode cX4_put 64 = .ok (.irem, 1) := by decide +kernel
theorem dX4_put_65 : decode cX4_put 65 = .ok (.putfield 19, 3) := by decide +kernel
theorem dX4_put_68 : decode cX4_put 68 = .ok (.aload_n 0, 1) := by decide +kernel
theorem dX4_put_69 : decode cX4_put 69 = .ok (.bipush 60, 2) := by decide +kernel
theorem dX4_put_71 : decode cX4_put 71 = .ok (.aload_n 0, 1) := by decide +kernel
theorem dX4_put_72 : decode cX4_put 72 = .ok (.getfield 15, 3) := by decide +kernel
theorem dX4_put_75 : decode cX4_put 75 = .ok (.iconst 1, 1) := by decide +kernel
theorem dX4_put_76 : decode cX4_put 76 = .ok (.iadd, 1) := by decide +kernel
theorem dX4_put_77 : decode cX4_put 77 = .ok (.invokestatic 30, 3) := by decide +kernel
theorem dX4_put_80 : decode cX4_put 80 = .ok (.putfield 15, 3) := by decide +kernel
theorem dX4_put_83 : decode cX4_put 83 = .ok (.return_, 1) := by decide +kernel
theorem dX4_read_0 : decode cX4_read 0 = .ok (.iload_n 1, 1) := by decide +kernel
theorem dX4_read_1 : decode cX4_read 1 = .ok (.ifCond .lt 11, 3) := by decide +kernel
theorem dX4_read_4 : decode cX4_read 4 = .ok (.iload_n 1, 1) := by decide +kernel
theorem dX4_read_5 : decode cX4_read 5 = .ok (.aload_n 0, 1) := by decide +kernel
theorem dX4_read_6 : decode cX4_read 6 = .ok (.getfield 15, 3) := by decide +kernel
theorem dX4_read_9 : decode cX4_read 9 = .ok (.if_icmp .lt 5, 3) := by decide +kernel
theorem dX4_read_12 : decode cX4_read 12 = .ok (.iconst (-1), 1) := by decide +kernel
theorem dX4_read_13 : decode cX4_read 13 = .ok (.ireturn, 1) := by decide +kernel
theorem dX4_read_14 : decode cX4_read 14 = .ok (.aload_n 0, 1) := by decide +kernel
theorem dX4_read_15 : decode cX4_read 15 = .ok (.getfield 19, 3) := by decide +kernel
theorem dX4_read_18 : decode cX4_read 18 = .ok (.bipush 60, 2) := by decide +kernel
theorem dX4_read_20 : decode cX4_read 20 = .ok (.iadd, 1) := by decide +kernel
theorem dX4_read_21 : decode cX4_read 21 = .ok (.iconst 1, 1) := by decide +kernel
theorem dX4_read_22 : decode cX4_read 22 = .ok (.isub, 1) := by decide +kernel
theorem dX4_read_23 : decode cX4_read 23 = .ok (.iload_n 1, 1) := by decide +kernel
theorem dX4_read_24 : decode cX4_read 24 = .ok (.isub, 1) := by decide +kernel
theorem dX4_read_25 : decode cX4_read 25 = .ok (.bipush 60, 2) := by decide +kernel
theorem dX4_read_27 : decode cX4_read 27 = .ok (.irem, 1) := by decide +kernel
theorem dX4_read_28 : decode cX4_read 28 = .ok (.istore_n 3, 1) := by decide +kernel
theorem dX4_read_29 : decode cX4_read 29 = .ok (.aload_n 0, 1) := by decide +kernel
theorem dX4_read_30 : decode cX4_read 30 = .ok (.getfield 9, 3) := by decide +kernel
theorem dX4_read_33 : decode cX4_read 33 = .ok (.iload_n 3, 1) := by decide +kernel
theorem dX4_read_34 : decode cX4_read 34 = .ok (.iconst 4, 1) := by decide +kernel
theorem dX4_read_35 : decode cX4_read 35 = .ok (.imul, 1) := by decide +kernel
theorem dX4_read_36 : decode cX4_read 36 = .ok (.iload_n 2, 1) := by decide +kernel
theorem dX4_read_37 : decode cX4_read 37 = .ok (.iadd, 1) := by decide +kernel
theorem dX4_read_38 : decode cX4_read 38 = .ok (.invokestatic 36, 3) := by decide +kernel
theorem dX4_read_41 : decode cX4_read 41 = .ok (.ireturn, 1) := by decide +kernel
theorem dX4_rowsOf_0 : decode cX4_rowsOf 0 = .ok (.iconst 0, 1) := by decide +kernel
theorem dX4_rowsOf_1 : decode cX4_rowsOf 1 = .ok (.istore_n 2, 1) := by decide +kernel
theorem dX4_rowsOf_2 : decode cX4_rowsOf 2 = .ok (.iconst 0, 1) := by decide +kernel
theorem dX4_rowsOf_3 : decode cX4_rowsOf 3 = .ok (.istore_n 3, 1) := by decide +kernel
theorem dX4_rowsOf_4 : decode cX4_rowsOf 4 = .ok (.iload_n 3, 1) := by decide +kernel
theorem dX4_rowsOf_5 : decode cX4_rowsOf 5 = .ok (.aload_n 0, 1) := by decide +kernel
theorem dX4_rowsOf_6 : decode cX4_rowsOf 6 = .ok (.getfield 15, 3) := by decide +kernel
theorem dX4_rowsOf_9 : decode cX4_rowsOf 9 = .ok (.if_icmp .ge 22, 3) := by decide +kernel
theorem dX4_rowsOf_12 : decode cX4_rowsOf 12 = .ok (.aload_n 0, 1) := by decide +kernel
theorem dX4_rowsOf_13 : decode cX4_rowsOf 13 = .ok (.iload_n 3, 1) := by decide +kernel
theorem dX4_rowsOf_14 : decode cX4_rowsOf 14 = .ok (.iconst 1, 1) := by decide +kernel
theorem dX4_rowsOf_15 : decode cX4_rowsOf 15 = .ok (.invokevirtual 40, 3) := by decide +kernel
theorem dX4_rowsOf_18 : decode cX4_rowsOf 18 = .ok (.iload_n 1, 1) := by decide +kernel
theorem dX4_rowsOf_19 : decode cX4_rowsOf 19 = .ok (.if_icmp .ne 6, 3) := by decide +kernel
theorem dX4_rowsOf_22 : decode cX4_rowsOf 22 = .ok (.iinc 2 1, 3) := by decide +kernel
theorem dX4_rowsOf_25 : decode cX4_rowsOf 25 = .ok (.iinc 3 1, 3) := by decide +kernel
theorem dX4_rowsOf_28 : decode cX4_rowsOf 28 = .ok (.goto (-24), 3) := by decide +kernel
theorem dX4_rowsOf_31 : decode cX4_rowsOf 31 = .ok (.iload_n 2, 1) := by decide +kernel
theorem dX4_rowsOf_32 : decode cX4_rowsOf 32 = .ok (.ireturn, 1) := by decide +kernel
theorem dX4_latestTime_0 : decode cX4_latestTime 0 = .ok (.iconst 0, 1) := by decide +kernel
theorem dX4_latestTime_1 : decode cX4_latestTime 1 = .ok (.istore_n 2, 1) := by decide +kernel
theorem dX4_latestTime_2 : decode cX4_latestTime 2 = .ok (.iload_n 2, 1) := by decide +kernel
theorem dX4_latestTime_3 : decode cX4_latestTime 3 = .ok (.aload_n 0, 1) := by decide +kernel
theorem dX4_latestTime_4 : decode cX4_latestTime 4 = .ok (.getfield 15, 3) := by decide +kernel
theorem dX4_latestTime_7 : decode cX4_latestTime 7 = .ok (.if_icmp .ge 26, 3) := by decide +kernel
theorem dX4_latestTime_10 : decode cX4_latestTime 10 = .ok (.aload_n 0, 1) := by decide +kernel
theorem dX4_latestTime_11 : decode cX4_latestTime 11 = .ok (.iload_n 2, 1) := by decide +kernel
theorem dX4_latestTime_12 : decode cX4_latestTime 12 = .ok (.iconst 1, 1) := by decide +kernel
theorem dX4_latestTime_13 : decode cX4_latestTime 13 = .ok (.invokevirtual 40, 3) := by decide +kernel
theorem dX4_latestTime_16 : decode cX4_latestTime 16 = .ok (.iload_n 1, 1) := by decide +kernel
theorem dX4_latestTime_17 : decode cX4_latestTime 17 = .ok (.if_icmp .ne 10, 3) := by decide +kernel
theorem dX4_latestTime_20 : decode cX4_latestTime 20 = .ok (.aload_n 0, 1) := by decide +kernel
theorem dX4_latestTime_21 : decode cX4_latestTime 21 = .ok (.iload_n 2, 1) := by decide +kernel
theorem dX4_latestTime_22 : decode cX4_latestTime 22 = .ok (.iconst 0, 1) := by decide +kernel
theorem dX4_latestTime_23 : decode cX4_latestTime 23 = .ok (.invokevirtual 40, 3) := by decide +kernel
theorem dX4_latestTime_26 : decode cX4_latestTime 26 = .ok (.ireturn, 1) := by decide +kernel
theorem dX4_latestTime_27 : decode cX4_latestTime 27 = .ok (.iinc 2 1, 3) := by decide +kernel
theorem dX4_latestTime_30 : decode cX4_latestTime 30 = .ok (.goto (-28), 3) := by decide +kernel
theorem dX4_latestTime_33 : decode cX4_latestTime 33 = .ok (.iconst (-1), 1) := by decide +kernel
theorem dX4_latestTime_34 : decode cX4_latestTime 34 = .ok (.ireturn, 1) := by decide +kernel
theorem dX5_init_0 : decode cX5_init 0 = .ok (.aload_n 0, 1) := by decide +kernel
theorem dX5_init_1 : decode cX5_init 1 = .ok (.invokespecial 3, 3) := by decide +kernel
theorem dX5_init_4 : decode cX5_init 4 = .ok (.aload_n 0, 1) := by decide +kernel
theorem dX5_init_5 : decode cX5_init 5 = .ok (.bipush 12, 2) := by decide +kernel
theorem dX5_init_7 : decode cX5_init 7 = .ok (.anewarray 9, 3) := by decide +kernel
theorem dX5_init_10 : decode cX5_init 10 = .ok (.putfield 11, 3) := by decide +kernel
theorem dX5_init_13 : decode cX5_init 13 = .ok (.aload_n 0, 1) := by decide +kernel
theorem dX5_init_14 : decode cX5_init 14 = .ok (.iconst 0, 1) := by decide +kernel
theorem dX5_init_15 : decode cX5_init 15 = .ok (.putfield 17, 3) := by decide +kernel
theorem dX5_init_18 : decode cX5_init 18 = .ok (.aload_n 0, 1) := by decide +kernel
theorem dX5_init_19 : decode cX5_init 19 = .ok (.iconst 0, 1) := by decide +kernel
theorem dX5_init_20 : decode cX5_init 20 = .ok (.putfield 21, 3) := by decide +kernel
theorem dX5_init_23 : decode cX5_init 23 = .ok (.iconst 0, 1) := by decide +kernel
theorem dX5_init_24 : decode cX5_init 24 = .ok (.istore_n 1, 1) := by decide +kernel
theorem dX5_init_25 : decode cX5_init 25 = .ok (.iload_n 1, 1) := by decide +kernel
theorem dX5_init_26 : decode cX5_init 26 = .ok (.bipush 12, 2) := by decide +kernel
theorem dX5_init_28 : decode cX5_init 28 = .ok (.if_icmp .ge 22, 3) := by decide +kernel
theorem dX5_init_31 : decode cX5_init 31 = .ok (.aload_n 0, 1) := by decide +kernel
theorem dX5_init_32 : decode cX5_init 32 = .ok (.getfield 11, 3) := by decide +kernel
theorem dX5_init_35 : decode cX5_init 35 = .ok (.iload_n 1, 1) := by decide +kernel
theorem dX5_init_36 : decode cX5_init 36 = .ok (.new 9, 3) := by decide +kernel
theorem dX5_init_39 : decode cX5_init 39 = .ok (.dup, 1) := by decide +kernel
theorem dX5_init_40 : decode cX5_init 40 = .ok (.invokespecial 24, 3) := by decide +kernel
theorem dX5_init_43 : decode cX5_init 43 = .ok (.aastore, 1) := by decide +kernel
theorem dX5_init_44 : decode cX5_init 44 = .ok (.iinc 1 1, 3) := by decide +kernel
theorem dX5_init_47 : decode cX5_init 47 = .ok (.goto (-22), 3) := by decide +kernel
theorem dX5_init_50 : decode cX5_init 50 = .ok (.return_, 1) := by decide +kernel
theorem dX5_keep_0 : decode cX5_keep 0 = .ok (.aload_n 0, 1) := by decide +kernel
theorem dX5_keep_1 : decode cX5_keep 1 = .ok (.getfield 21, 3) := by decide +kernel
theorem dX5_keep_4 : decode cX5_keep 4 = .ok (.ifCond .lt 25, 3) := by decide +kernel
theorem dX5_keep_7 : decode cX5_keep 7 = .ok (.aload_n 0, 1) := by decide +kernel
theorem dX5_keep_8 : decode cX5_keep 8 = .ok (.getfield 21, 3) := by decide +kernel
theorem dX5_keep_11 : decode cX5_keep 11 = .ok (.bipush 12, 2) := by decide +kernel
theorem dX5_keep_13 : decode cX5_keep 13 = .ok (.if_icmp .ge 16, 3) := by decide +kernel
theorem dX5_keep_16 : decode cX5_keep 16 = .ok (.aload_n 0, 1) := by decide +kernel
theorem dX5_keep_17 : decode cX5_keep 17 = .ok (.getfield 11, 3) := by decide +kernel
theorem dX5_keep_20 : decode cX5_keep 20 = .ok (.aload_n 0, 1) := by decide +kernel
theorem dX5_keep_21 : decode cX5_keep 21 = .ok (.getfield 21, 3) := by decide +kernel
theorem dX5_keep_24 : decode cX5_keep 24 = .ok (.aaload, 1) := by decide +kernel
theorem dX5_keep_25 : decode cX5_keep 25 = .ok (.aload_n 1, 1) := by decide +kernel
theorem dX5_keep_26 : decode cX5_keep 26 = .ok (.invokevirtual 25, 3) := by decide +kernel
theorem dX5_keep_29 : decode cX5_keep 29 = .ok (.aload_n 0, 1) := by decide +kernel
theorem dX5_keep_30 : decode cX5_keep 30 = .ok (.aload_n 0, 1) := by decide +kernel
theorem dX5_keep_31 : decode cX5_keep 31 = .ok (.getfield 21, 3) := by decide +kernel
theorem dX5_keep_34 : decode cX5_keep 34 = .ok (.iconst 1, 1) := by decide +kernel
theorem dX5_keep_35 : decode cX5_keep 35 = .ok (.iadd, 1) := by decide +kernel
theorem dX5_keep_36 : decode cX5_keep 36 = .ok (.bipush 12, 2) := by decide +kernel
theorem dX5_keep_38 : decode cX5_keep 38 = .ok (.irem, 1) := by decide +kernel
theorem dX5_keep_39 : decode cX5_keep 39 = .ok (.putfield 21, 3) := by decide +kernel
theorem dX5_keep_42 : decode cX5_keep 42 = .ok (.aload_n 0, 1) := by decide +kernel
theorem dX5_keep_43 : decode cX5_keep 43 = .ok (.bipush 12, 2) := by decide +kernel
theorem dX5_keep_45 : decode cX5_keep 45 = .ok (.aload_n 0, 1) := by decide +kernel
theorem dX5_keep_46 : decode cX5_keep 46 = .ok (.getfield 17, 3) := by decide +kernel
theorem dX5_keep_49 : decode cX5_keep 49 = .ok (.iconst 1, 1) := by decide +kernel
theorem dX5_keep_50 : decode cX5_keep 50 = .ok (.iadd, 1) := by decide +kernel
theorem dX5_keep_51 : decode cX5_keep 51 = .ok (.invokestatic 29, 3) := by decide +kernel
theorem dX5_keep_54 : decode cX5_keep 54 = .ok (.putfield 17, 3) := by decide +kernel
theorem dX5_keep_57 : decode cX5_keep 57 = .ok (.return_, 1) := by decide +kernel
theorem dX5_takeBack_0 : decode cX5_takeBack 0 = .ok (.aload_n 0, 1) := by decide +kernel
theorem dX5_takeBack_1 : decode cX5_takeBack 1 = .ok (.getfield 17, 3) := by decide +kernel
theorem dX5_takeBack_4 : decode cX5_takeBack 4 = .ok (.ifCond .gt 5, 3) := by decide +kernel
theorem dX5_takeBack_7 : decode cX5_takeBack 7 = .ok (.iconst 0, 1) := by decide +kernel
theorem dX5_takeBack_8 : decode cX5_takeBack 8 = .ok (.ireturn, 1) := by decide +kernel
theorem dX5_takeBack_9 : decode cX5_takeBack 9 = .ok (.aload_n 0, 1) := by decide +kernel
theorem dX5_takeBack_10 : decode cX5_takeBack 10 = .ok (.aload_n 0, 1) := by decide +kernel
theorem dX5_takeBack_11 : decode cX5_takeBack 11 = .ok (.getfield 21, 3) := by decide +kernel
theorem dX5_takeBack_14 : decode cX5_takeBack 14 = .ok (.bipush 12, 2) := by decide +kernel
theorem dX5_takeBack_16 : decode cX5_takeBack 16 = .ok (.iadd, 1) := by decide +kernel
theorem dX5_takeBack_17 : decode cX5_takeBack 17 = .ok (.iconst 1, 1) := by decide +kernel
theorem dX5_takeBack_18 : decode cX5_takeBack 18 = .ok (.isub, 1) := by decide +kernel
theorem dX5_takeBack_19 : decode cX5_takeBack 19 = .ok (.bipush 12, 2) := by decide +kernel
theorem dX5_takeBack_21 : decode cX5_takeBack 21 = .ok (.irem, 1) := by decide +kernel
theorem dX5_takeBack_22 : decode cX5_takeBack 22 = .ok (.putfield 21, 3) := by decide +kernel
theorem dX5_takeBack_25 : decode cX5_takeBack 25 = .ok (.aload_n 0, 1) := by decide +kernel
theorem dX5_takeBack_26 : decode cX5_takeBack 26 = .ok (.dup, 1) := by decide +kernel
theorem dX5_takeBack_27 : decode cX5_takeBack 27 = .ok (.getfield 17, 3) := by decide +kernel
theorem dX5_takeBack_30 : decode cX5_takeBack 30 = .ok (.iconst 1, 1) := by decide +kernel
theorem dX5_takeBack_31 : decode cX5_takeBack 31 = .ok (.isub, 1) := by decide +kernel
theorem dX5_takeBack_32 : decode cX5_takeBack 32 = .ok (.putfield 17, 3) := by decide +kernel
theorem dX5_takeBack_35 : decode cX5_takeBack 35 = .ok (.aload_n 0, 1) := by decide +kernel
theorem dX5_takeBack_36 : decode cX5_takeBack 36 = .ok (.getfield 21, 3) := by decide +kernel
theorem dX5_takeBack_39 : decode cX5_takeBack 39 = .ok (.ifCond .lt 16, 3) := by decide +kernel
theorem dX5_takeBack_42 : decode cX5_takeBack 42 = .ok (.aload_n 1, 1) := by decide +kernel
theorem dX5_takeBack_43 : decode cX5_takeBack 43 = .ok (.aload_n 0, 1) := by decide +kernel
theorem dX5_takeBack_44 : decode cX5_takeBack 44 = .ok (.getfield 11, 3) := by decide +kernel
theorem dX5_takeBack_47 : decode cX5_takeBack 47 = .ok (.aload_n 0, 1) := by decide +kernel
theorem dX5_takeBack_48 : decode cX5_takeBack 48 = .ok (.getfield 21, 3) := by decide +kernel
theorem dX5_takeBack_51 : decode cX5_takeBack 51 = .ok (.aaload, 1) := by decide +kernel
theorem dX5_takeBack_52 : decode cX5_takeBack 52 = .ok (.invokevirtual 25, 3) := by decide +kernel
theorem dX5_takeBack_55 : decode cX5_takeBack 55 = .ok (.iconst 1, 1) := by decide +kernel
theorem dX5_takeBack_56 : decode cX5_takeBack 56 = .ok (.ireturn, 1) := by decide +kernel
theorem dX5_forget_0 : decode cX5_forget 0 = .ok (.aload_n 0, 1) := by decide +kernel
theorem dX5_forget_1 : decode cX5_forget 1 = .ok (.iconst 0, 1) := by decide +kernel
theorem dX5_forget_2 : decode cX5_forget 2 = .ok (.putfield 17, 3) := by decide +kernel
theorem dX5_forget_5 : decode cX5_forget 5 = .ok (.return_, 1) := by decide +kernel
theorem dX6_init_0 : decode cX6_init 0 = .ok (.aload_n 0, 1) := by decide +kernel
theorem dX6_init_1 : decode cX6_init 1 = .ok (.invokespecial 3, 3) := by decide +kernel
theorem dX6_init_4 : decode cX6_init 4 = .ok (.aload_n 0, 1) := by decide +kernel
theorem dX6_init_5 : decode cX6_init 5 = .ok (.sipush 400, 3) := by decide +kernel
theorem dX6_init_8 : decode cX6_init 8 = .ok (.newarray .int, 2) := by decide +kernel
theorem dX6_init_10 : decode cX6_init 10 = .ok (.putfield 9, 3) := by decide +kernel
theorem dX6_init_13 : decode cX6_init 13 = .ok (.aload_n 0, 1) := by decide +kernel
theorem dX6_init_14 : decode cX6_init 14 = .ok (.iconst 0, 1) := by decide +kernel
theorem dX6_init_15 : decode cX6_init 15 = .ok (.putfield 15, 3) := by decide +kernel
theorem dX6_init_18 : decode cX6_init 18 = .ok (.return_, 1) := by decide +kernel
theorem dX6_put_0 : decode cX6_put 0 = .ok (.bipush 24, 2) := by decide +kernel
theorem dX6_put_2 : decode cX6_put 2 = .ok (.istore_n 2, 1) := by decide +kernel
theorem dX6_put_3 : decode cX6_put 3 = .ok (.iload_n 2, 1) := by decide +kernel
theorem dX6_put_4 : decode cX6_put 4 = .ok (.ifCond .lt 47, 3) := by decide +kernel
theorem dX6_put_7 : decode cX6_put 7 = .ok (.aload_n 0, 1) := by decide +kernel
theorem dX6_put_8 : decode cX6_put 8 = .ok (.getfield 15, 3) := by decide +kernel
theorem dX6_put_11 : decode cX6_put 11 = .ok (.aload_n 0, 1) := by decide +kernel
theorem dX6_put_12 : decode cX6_put 12 = .ok (.getfield 9, 3) := by decide +kernel
theorem dX6_put_15 : decode cX6_put 15 = .ok (.arraylength, 1) := by decide +kernel
theorem dX6_put_16 : decode cX6_put 16 = .ok (.if_icmp .ge 29, 3) := by decide +kernel
theorem dX6_put_19 : decode cX6_put 19 = .ok (.aload_n 0, 1) := by decide +kernel
theorem dX6_put_20 : decode cX6_put 20 = .ok (.getfield 9, 3) := by decide +kernel
theorem dX6_put_23 : decode cX6_put 23 = .ok (.aload_n 0, 1) := by decide +kernel
theorem dX6_put_24 : decode cX6_put 24 = .ok (.getfield 15, 3) := by decide +kernel
theorem dX6_put_27 : decode cX6_put 27 = .ok (.iload_n 1, 1) := by decide +kernel
theorem dX6_put_28 : decode cX6_put 28 = .ok (.iload_n 2, 1) := by decide +kernel
theorem dX6_put_29 : decode cX6_put 29 = .ok (.iushr, 1) := by decide +kernel
theorem dX6_put_30 : decode cX6_put 30 = .ok (.sipush 255, 3) := by decide +kernel
theorem dX6_put_33 : decode cX6_put 33 = .ok (.iand, 1) := by decide +kernel
theorem dX6_put_34 : decode cX6_put 34 = .ok (.iastore, 1) := by decide +kernel
theorem dX6_put_35 : decode cX6_put 35 = .ok (.aload_n 0, 1) := by decide +kernel
theorem dX6_put_36 : decode cX6_put 36 = .ok (.dup, 1) := by decide +kernel
theorem dX6_put_37 : decode cX6_put 37 = .ok (.getfield 15, 3) := by decide +kernel
theorem dX6_put_40 : decode cX6_put 40 = .ok (.iconst 1, 1) := by decide +kernel
theorem dX6_put_41 : decode cX6_put 41 = .ok (.iadd, 1) := by decide +kernel
theorem dX6_put_42 : decode cX6_put 42 = .ok (.putfield 15, 3) := by decide +kernel
theorem dX6_put_45 : decode cX6_put 45 = .ok (.iinc 2 (-8), 3) := by decide +kernel
theorem dX6_put_48 : decode cX6_put 48 = .ok (.goto (-45), 3) := by decide +kernel
theorem dX6_put_51 : decode cX6_put 51 = .ok (.return_, 1) := by decide +kernel
theorem dX6_use_0 : decode cX6_use 0 = .ok (.aload_n 0, 1) := by decide +kernel
theorem dX6_use_1 : decode cX6_use 1 = .ok (.getfield 15, 3) := by decide +kernel
theorem dX6_use_4 : decode cX6_use 4 = .ok (.istore_n 1, 1) := by decide +kernel
theorem dX6_use_5 : decode cX6_use 5 = .ok (.aload_n 0, 1) := by decide +kernel
theorem dX6_use_6 : decode cX6_use 6 = .ok (.iconst 0, 1) := by decide +kernel
theorem dX6_use_7 : decode cX6_use 7 = .ok (.putfield 15, 3) := by decide +kernel
theorem dX6_use_10 : decode cX6_use 10 = .ok (.iload_n 1, 1) := by decide +kernel
theorem dX6_use_11 : decode cX6_use 11 = .ok (.ireturn, 1) := by decide +kernel
theorem dX6_byteAt_0 : decode cX6_byteAt 0 = .ok (.aload_n 0, 1) := by decide +kernel
theorem dX6_byteAt_1 : decode cX6_byteAt 1 = .ok (.getfield 9, 3) := by decide +kernel
theorem dX6_byteAt_4 : decode cX6_byteAt 4 = .ok (.iload_n 1, 1) := by decide +kernel
theorem dX6_byteAt_5 : decode cX6_byteAt 5 = .ok (.invokestatic 19, 3) := by decide +kernel
theorem dX6_byteAt_8 : decode cX6_byteAt 8 = .ok (.ireturn, 1) := by decide +kernel
theorem dX7_init_0 : decode cX7_init 0 = .ok (.aload_n 0, 1) := by decide +kernel
theorem dX7_init_1 : decode cX7_init 1 = .ok (.invokespecial 3, 3) := by decide +kernel
theorem dX7_init_4 : decode cX7_init 4 = .ok (.aload_n 0, 1) := by decide +kernel
theorem dX7_init_5 : decode cX7_init 5 = .ok (.sipush 401, 3) := by decide +kernel
theorem dX7_init_8 : decode cX7_init 8 = .ok (.newarray .int, 2) := by decide +kernel
theorem dX7_init_10 : decode cX7_init 10 = .ok (.putfield 9, 3) := by decide +kernel
theorem dX7_init_13 : decode cX7_init 13 = .ok (.aload_n 0, 1) := by decide +kernel
theorem dX7_init_14 : decode cX7_init 14 = .ok (.sipush 401, 3) := by decide +kernel
theorem dX7_init_17 : decode cX7_init 17 = .ok (.newarray .int, 2) := by decide +kernel
theorem dX7_init_19 : decode cX7_init 19 = .ok (.putfield 15, 3) := by decide +kernel
theorem dX7_init_22 : decode cX7_init 22 = .ok (.aload_n 0, 1) := by decide +kernel
theorem dX7_init_23 : decode cX7_init 23 = .ok (.sipush 401, 3) := by decide +kernel
theorem dX7_init_26 : decode cX7_init 26 = .ok (.newarray .int, 2) := by decide +kernel
theorem dX7_init_28 : decode cX7_init 28 = .ok (.putfield 18, 3) := by decide +kernel
theorem dX7_init_31 : decode cX7_init 31 = .ok (.aload_n 0, 1) := by decide +kernel
theorem dX7_init_32 : decode cX7_init 32 = .ok (.iconst 0, 1) := by decide +kernel
theorem dX7_init_33 : decode cX7_init 33 = .ok (.putfield 21, 3) := by decide +kernel
theorem dX7_init_36 : decode cX7_init 36 = .ok (.aload_n 0, 1) := by decide +kernel
theorem dX7_init_37 : decode cX7_init 37 = .ok (.iconst 0, 1) := by decide +kernel
theorem dX7_init_38 : decode cX7_init 38 = .ok (.putfield 25, 3) := by decide +kernel
theorem dX7_init_41 : decode cX7_init 41 = .ok (.aload_n 0, 1) := by decide +kernel
theorem dX7_init_42 : decode cX7_init 42 = .ok (.bipush (-3), 2) := by decide +kernel
theorem dX7_init_44 : decode cX7_init 44 = .ok (.putfield 28, 3) := by decide +kernel
theorem dX7_init_47 : decode cX7_init 47 = .ok (.aload_n 0, 1) := by decide +kernel
theorem dX7_init_48 : decode cX7_init 48 = .ok (.iconst 0, 1) := by decide +kernel
theorem dX7_init_49 : decode cX7_init 49 = .ok (.putfield 31, 3) := by decide +kernel
theorem dX7_init_52 : decode cX7_init 52 = .ok (.aload_n 0, 1) := by decide +kernel
theorem dX7_init_53 : decode cX7_init 53 = .ok (.iconst (-1), 1) := by decide +kernel
theorem dX7_init_54 : decode cX7_init 54 = .ok (.putfield 34, 3) := by decide +kernel
theorem dX7_init_57 : decode cX7_init 57 = .ok (.return_, 1) := by decide +kernel
theorem dX7_read_0 : decode cX7_read 0 = .ok (.aload_n 1, 1) := by decide +kernel
theorem dX7_read_1 : decode cX7_read 1 = .ok (.invokevirtual 37, 3) := by decide +kernel
theorem dX7_read_4 : decode cX7_read 4 = .ok (.istore_n 2, 1) := by decide +kernel
theorem dX7_read_5 : decode cX7_read 5 = .ok (.aload_n 0, 1) := by decide +kernel
theorem dX7_read_6 : decode cX7_read 6 = .ok (.iconst (-1), 1) := by decide +kernel
theorem dX7_read_7 : decode cX7_read 7 = .ok (.putfield 34, 3) := by decide +kernel
theorem dX7_read_10 : decode cX7_read 10 = .ok (.aload_n 0, 1) := by decide +kernel
theorem dX7_read_11 : decode cX7_read 11 = .ok (.aload_n 1, 1) := by decide +kernel
theorem dX7_read_12 : decode cX7_read 12 = .ok (.iload_n 2, 1) := by decide +kernel
theorem dX7_read_13 : decode cX7_read 13 = .ok (.invokevirtual 43, 3) := by decide +kernel
theorem dX7_read_16 : decode cX7_read 16 = .ok (.iconst 0, 1) := by decide +kernel
theorem dX7_read_17 : decode cX7_read 17 = .ok (.istore_n 3, 1) := by decide +kernel
theorem dX7_read_18 : decode cX7_read 18 = .ok (.iload_n 3, 1) := by decide +kernel
theorem dX7_read_19 : decode cX7_read 19 = .ok (.aload_n 0, 1) := by decide +kernel
theorem dX7_read_20 : decode cX7_read 20 = .ok (.getfield 21, 3) := by decide +kernel
theorem dX7_read_23 : decode cX7_read 23 = .ok (.if_icmp .ge 31, 3) := by decide +kernel
theorem dX7_read_26 : decode cX7_read 26 = .ok (.aload_n 0, 1) := by decide +kernel
theorem dX7_read_27 : decode cX7_read 27 = .ok (.getfield 9, 3) := by decide +kernel
theorem dX7_read_30 : decode cX7_read 30 = .ok (.iload_n 3, 1) := by decide +kernel
theorem dX7_read_31 : decode cX7_read 31 = .ok (.aload_n 1, 1) := by decide +kernel
theorem dX7_read_32 : decode cX7_read 32 = .ok (.aload_n 0, 1) := by decide +kernel
theorem dX7_read_33 : decode cX7_read 33 = .ok (.getfield 15, 3) := by decide +kernel
theorem dX7_read_36 : decode cX7_read 36 = .ok (.iload_n 3, 1) := by decide +kernel
theorem dX7_read_37 : decode cX7_read 37 = .ok (.iaload, 1) := by decide +kernel
theorem dX7_read_38 : decode cX7_read 38 = .ok (.aload_n 0, 1) := by decide +kernel
theorem dX7_read_39 : decode cX7_read 39 = .ok (.getfield 18, 3) := by decide +kernel
theorem dX7_read_42 : decode cX7_read 42 = .ok (.iload_n 3, 1) := by decide +kernel
theorem dX7_read_43 : decode cX7_read 43 = .ok (.iaload, 1) := by decide +kernel
theorem dX7_read_44 : decode cX7_read 44 = .ok (.invokestatic 47, 3) := by decide +kernel
theorem dX7_read_47 : decode cX7_read 47 = .ok (.iastore, 1) := by decide +kernel
theorem dX7_read_48 : decode cX7_read 48 = .ok (.iinc 3 1, 3) := by decide +kernel
theorem dX7_read_51 : decode cX7_read 51 = .ok (.goto (-33), 3) := by decide +kernel
theorem dX7_read_54 : decode cX7_read 54 = .ok (.aload_n 0, 1) := by decide +kernel
theorem dX7_read_55 : decode cX7_read 55 = .ok (.getfield 9, 3) := by decide +kernel
theorem dX7_read_58 : decode cX7_read 58 = .ok (.aload_n 0, 1) := by decide +kernel
theorem dX7_read_59 : decode cX7_read 59 = .ok (.getfield 21, 3) := by decide +kernel
theorem dX7_read_62 : decode cX7_read 62 = .ok (.bipush (-3), 2) := by decide +kernel
theorem dX7_read_64 : decode cX7_read 64 = .ok (.invokestatic 51, 3) := by decide +kernel
theorem dX7_read_67 : decode cX7_read 67 = .ok (.aload_n 0, 1) := by decide +kernel
theorem dX7_read_68 : decode cX7_read 68 = .ok (.getfield 15, 3) := by decide +kernel
theorem dX7_read_71 : decode cX7_read 71 = .ok (.aload_n 0, 1) := by decide +kernel
theorem dX7_read_72 : decode cX7_read 72 = .ok (.getfield 21, 3) := by decide +kernel
theorem dX7_read_75 : decode cX7_read 75 = .ok (.iload_n 2, 1) := by decide +kernel
theorem dX7_read_76 : decode cX7_read 76 = .ok (.invokestatic 51, 3) := by decide +kernel
theorem dX7_read_79 : decode cX7_read 79 = .ok (.aload_n 0, 1) := by decide +kernel
theorem dX7_read_80 : decode cX7_read 80 = .ok (.iconst (-1), 1) := by decide +kernel
theorem dX7_read_81 : decode cX7_read 81 = .ok (.putfield 25, 3) := by decide +kernel
theorem dX7_read_84 : decode cX7_read 84 = .ok (.aload_n 0, 1) := by decide +kernel
theorem dX7_read_85 : decode cX7_read 85 = .ok (.invokevirtual 55, 3) := by decide +kernel
theorem dX7_read_88 : decode cX7_read 88 = .ok (.return_, 1) := by decide +kernel
theorem dX7_cut_0 : decode cX7_cut 0 = .ok (.aload_n 0, 1) := by decide +kernel
theorem dX7_cut_1 : decode cX7_cut 1 = .ok (.iconst 0, 1) := by decide +kernel
theorem dX7_cut_2 : decode cX7_cut 2 = .ok (.putfield 21, 3) := by decide +kernel
theorem dX7_cut_5 : decode cX7_cut 5 = .ok (.iconst 0, 1) := by decide +kernel
theorem dX7_cut_6 : decode cX7_cut 6 = .ok (.istore_n 3, 1) := by decide +kernel
theorem dX7_cut_7 : decode cX7_cut 7 = .ok (.iconst 0, 1) := by decide +kernel
theorem dX7_cut_8 : decode cX7_cut 8 = .ok (.istore 4, 2) := by decide +kernel
theorem dX7_cut_10 : decode cX7_cut 10 = .ok (.iload 4, 2) := by decide +kernel
theorem dX7_cut_12 : decode cX7_cut 12 = .ok (.iload_n 2, 1) := by decide +kernel
theorem dX7_cut_13 : decode cX7_cut 13 = .ok (.if_icmp .ge 105, 3) := by decide +kernel
theorem dX7_cut_16 : decode cX7_cut 16 = .ok (.aload_n 1, 1) := by decide +kernel
theorem dX7_cut_17 : decode cX7_cut 17 = .ok (.iload 4, 2) := by decide +kernel
theorem dX7_cut_19 : decode cX7_cut 19 = .ok (.invokevirtual 58, 3) := by decide +kernel
theorem dX7_cut_22 : decode cX7_cut 22 = .ok (.invokestatic 62, 3) := by decide +kernel
theorem dX7_cut_25 : decode cX7_cut 25 = .ok (.istore 5, 2) := by decide +kernel
theorem dX7_cut_27 : decode cX7_cut 27 = .ok (.iload 5, 2) := by decide +kernel
theorem dX7_cut_29 : decode cX7_cut 29 = .ok (.iload_n 3, 1) := by decide +kernel
theorem dX7_cut_30 : decode cX7_cut 30 = .ok (.if_icmp .ne 13, 3) := by decide +kernel
theorem dX7_cut_33 : decode cX7_cut 33 = .ok (.iload 5, 2) := by decide +kernel
theorem dX7_cut_35 : decode cX7_cut 35 = .ok (.iconst 3, 1) := by decide +kernel
theorem dX7_cut_36 : decode cX7_cut 36 = .ok (.if_icmp .eq 7, 3) := by decide +kernel
theorem dX7_cut_39 : decode cX7_cut 39 = .ok (.iconst 1, 1) := by decide +kernel
theorem dX7_cut_40 : decode cX7_cut 40 = .ok (.goto 4, 3) := by decide +kernel
theorem dX7_cut_43 : decode cX7_cut 43 = .ok (.iconst 0, 1) := by decide +kernel
theorem dX7_cut_44 : decode cX7_cut 44 = .ok (.istore 6, 2) := by decide +kernel
theorem dX7_cut_46 : decode cX7_cut 46 = .ok (.iload 5, 2) := by decide +kernel
theorem dX7_cut_48 : decode cX7_cut 48 = .ok (.ifCond .eq 39, 3) := by decide +kernel
theorem dX7_cut_51 : decode cX7_cut 51 = .ok (.iload 6, 2) := by decide +kernel
theorem dX7_cut_53 : decode cX7_cut 53 = .ok (.ifCond .ne 34, 3) := by decide +kernel
theorem dX7_cut_56 : decode cX7_cut 56 = .ok (.aload_n 0, 1) := by decide +kernel
theorem dX7_cut_57 : decode cX7_cut 57 = .ok (.getfield 21, 3) := by decide +kernel
theorem dX7_cut_60 : decode cX7_cut 60 = .ok (.sipush 400, 3) := by decide +kernel
theorem dX7_cut_63 : decode cX7_cut 63 = .ok (.if_icmp .ge 24, 3) := by decide +kernel
theorem dX7_cut_66 : decode cX7_cut 66 = .ok (.aload_n 0, 1) := by decide +kernel
theorem dX7_cut_67 : decode cX7_cut 67 = .ok (.getfield 15, 3) := by decide +kernel
theorem dX7_cut_70 : decode cX7_cut 70 = .ok (.aload_n 0, 1) := by decide +kernel
theorem dX7_cut_71 : decode cX7_cut 71 = .ok (.getfield 21, 3) := by decide +kernel
theorem dX7_cut_74 : decode cX7_cut 74 = .ok (.iload 4, 2) := by decide +kernel
theorem dX7_cut_76 : decode cX7_cut 76 = .ok (.iastore, 1) := by decide +kernel
theorem dX7_cut_77 : decode cX7_cut 77 = .ok (.aload_n 0, 1) := by decide +kernel
theorem dX7_cut_78 : decode cX7_cut 78 = .ok (.dup, 1) := by decide +kernel
theorem dX7_cut_79 : decode cX7_cut 79 = .ok (.getfield 21, 3) := by decide +kernel
theorem dX7_cut_82 : decode cX7_cut 82 = .ok (.iconst 1, 1) := by decide +kernel
theorem dX7_cut_83 : decode cX7_cut 83 = .ok (.iadd, 1) := by decide +kernel
theorem dX7_cut_84 : decode cX7_cut 84 = .ok (.putfield 21, 3) := by decide +kernel
theorem dX7_cut_87 : decode cX7_cut 87 = .ok (.iload 5, 2) := by decide +kernel
theorem dX7_cut_89 : decode cX7_cut 89 = .ok (.ifCond .eq 20, 3) := by decide +kernel
theorem dX7_cut_92 : decode cX7_cut 92 = .ok (.aload_n 0, 1) := by decide +kernel
theorem dX7_cut_93 : decode cX7_cut 93 = .ok (.getfield 18, 3) := by decide +kernel
theorem dX7_cut_96 : decode cX7_cut 96 = .ok (.aload_n 0, 1) := by decide +kernel
theorem dX7_cut_97 : decode cX7_cut 97 = .ok (.getfield 21, 3) := by decide +kernel
theorem dX7_cut_100 : decode cX7_cut 100 = .ok (.iconst 1, 1) := by decide +kernel
theorem dX7_cut_101 : decode cX7_cut 101 = .ok (.isub, 1) := by decide +kernel
theorem dX7_cut_102 : decode cX7_cut 102 = .ok (.iload 4, 2) := by decide +kernel
theorem dX7_cut_104 : decode cX7_cut 104 = .ok (.iconst 1, 1) := by decide +kernel
theorem dX7_cut_105 : decode cX7_cut 105 = .ok (.iadd, 1) := by decide +kernel
theorem dX7_cut_106 : decode cX7_cut 106 = .ok (.invokestatic 51, 3) := by decide +kernel
theorem dX7_cut_109 : decode cX7_cut 109 = .ok (.iload 5, 2) := by decide +kernel
theorem dX7_cut_111 : decode cX7_cut 111 = .ok (.istore_n 3, 1) := by decide +kernel
theorem dX7_cut_112 : decode cX7_cut 112 = .ok (.iinc 4 1, 3) := by decide +kernel
theorem dX7_cut_115 : decode cX7_cut 115 = .ok (.goto (-105), 3) := by decide +kernel
theorem dX7_cut_118 : decode cX7_cut 118 = .ok (.return_, 1) := by decide +kernel
theorem dX7_kindOf_0 : decode cX7_kindOf 0 = .ok (.iload_n 0, 1) := by decide +kernel
theorem dX7_kindOf_1 : decode cX7_kindOf 1 = .ok (.bipush 32, 2) := by decide +kernel
theorem dX7_kindOf_3 : decode cX7_kindOf 3 = .ok (.if_icmp .ne 5, 3) := by decide +kernel
theorem dX7_kindOf_6 : decode cX7_kindOf 6 = .ok (.iconst 0, 1) := by decide +kernel
theorem dX7_kindOf_7 : decode cX7_kindOf 7 = .ok (.ireturn, 1) := by decide +kernel
theorem dX7_kindOf_8 : decode cX7_kindOf 8 = .ok (.iload_n 0, 1) := by decide +kernel
theorem dX7_kindOf_9 : decode cX7_kindOf 9 = .ok (.bipush 97, 2) := by decide +kernel
theorem dX7_kindOf_11 : decode cX7_kindOf 11 = .ok (.if_icmp .lt 11, 3) := by decide +kernel
theorem dX7_kindOf_14 : decode cX7_kindOf 14 = .ok (.iload_n 0, 1) := by decide +kernel
theorem dX7_kindOf_15 : decode cX7_kindOf 15 = .ok (.bipush 122, 2) := by decide +kernel
theorem dX7_kindOf_17 : decode cX7_kindOf 17 = .ok (.if_icmp .gt 5, 3) := by decide +kernel
theorem dX7_kindOf_20 : decode cX7_kindOf 20 = .ok (.iconst 1, 1) := by decide +kernel
theorem dX7_kindOf_21 : decode cX7_kindOf 21 = .ok (.ireturn, 1) := by decide +kernel
theorem dX7_kindOf_22 : decode cX7_kindOf 22 = .ok (.iload_n 0, 1) := by decide +kernel
theorem dX7_kindOf_23 : decode cX7_kindOf 23 = .ok (.bipush 48, 2) := by decide +kernel
theorem dX7_kindOf_25 : decode cX7_kindOf 25 = .ok (.if_icmp .lt 13, 3) := by decide +kernel
theorem dX7_kindOf_28 : decode cX7_kindOf 28 = .ok (.iload_n 0, 1) := by decide +kernel
theorem dX7_kindOf_29 : decode cX7_kindOf 29 = .ok (.bipush 57, 2) := by decide +kernel
theorem dX7_kindOf_31 : decode cX7_kindOf 31 = .ok (.if_icmp .gt 7, 3) := by decide +kernel
theorem dX7_kindOf_34 : decode cX7_kindOf 34 = .ok (.iconst 2, 1) := by decide +kernel
theorem dX7_kindOf_35 : decode cX7_kindOf 35 = .ok (.goto 4, 3) := by decide +kernel
theorem dX7_kindOf_38 : decode cX7_kindOf 38 = .ok (.iconst 3, 1) := by decide +kernel
theorem dX7_kindOf_39 : decode cX7_kindOf 39 = .ok (.ireturn, 1) := by decide +kernel
theorem dX7_codeOf_0 : decode cX7_codeOf 0 = .ok (.aload_n 0, 1) := by decide +kernel
theorem dX7_codeOf_1 : decode cX7_codeOf 1 = .ok (.iload_n 1, 1) := by decide +kernel
theorem dX7_codeOf_2 : decode cX7_codeOf 2 = .ok (.invokevirtual 58, 3) := by decide +kernel
theorem dX7_codeOf_5 : decode cX7_codeOf 5 = .ok (.invokestatic 62, 3) := by decide +kernel
theorem dX7_codeOf_8 : decode cX7_codeOf 8 = .ok (.istore_n 3, 1) := by decide +kernel
theorem dX7_codeOf_9 : decode cX7_codeOf 9 = .ok (.iload_n 3, 1) := by decide +kernel
theorem dX7_codeOf_10 : decode cX7_codeOf 10 = .ok (.iconst 3, 1) := by decide +kernel
theorem dX7_codeOf_11 : decode cX7_codeOf 11 = .ok (.if_icmp .ne 13, 3) := by decide +kernel
theorem dX7_codeOf_14 : decode cX7_codeOf 14 = .ok (.sipush 2000, 3) := by decide +kernel
theorem dX7_codeOf_17 : decode cX7_codeOf 17 = .ok (.aload_n 0, 1) := by decide +kernel
theorem dX7_codeOf_18 : decode cX7_codeOf 18 = .ok (.iload_n 1, 1) := by decide +kernel
theorem dX7_codeOf_19 : decode cX7_codeOf 19 = .ok (.invokevirtual 58, 3) := by decide +kernel
theorem dX7_codeOf_22 : decode cX7_codeOf 22 = .ok (.iadd, 1) := by decide +kernel
theorem dX7_codeOf_23 : decode cX7_codeOf 23 = .ok (.ireturn, 1) := by decide +kernel
theorem dX7_codeOf_24 : decode cX7_codeOf 24 = .ok (.iload_n 3, 1) := by decide +kernel
theorem dX7_codeOf_25 : decode cX7_codeOf 25 = .ok (.iconst 2, 1) := by decide +kernel
theorem dX7_codeOf_26 : decode cX7_codeOf 26 = .ok (.if_icmp .ne 12, 3) := by decide +kernel
theorem dX7_codeOf_29 : decode cX7_codeOf 29 = .ok (.aload_n 0, 1) := by decide +kernel
theorem dX7_codeOf_30 : decode cX7_codeOf 30 = .ok (.iload_n 1, 1) := by decide +kernel
theorem dX7_codeOf_31 : decode cX7_codeOf 31 = .ok (.iload_n 2, 1) := by decide +kernel
theorem dX7_codeOf_32 : decode cX7_codeOf 32 = .ok (.invokestatic 65, 3) := by decide +kernel
theorem dX7_codeOf_35 : decode cX7_codeOf 35 = .ok (.goto 9, 3) := by decide +kernel
theorem dX7_codeOf_38 : decode cX7_codeOf 38 = .ok (.aload_n 0, 1) := by decide +kernel
theorem dX7_codeOf_39 : decode cX7_codeOf 39 = .ok (.iload_n 1, 1) := by decide +kernel
theorem dX7_codeOf_40 : decode cX7_codeOf 40 = .ok (.iload_n 2, 1) := by decide +kernel
theorem dX7_codeOf_41 : decode cX7_codeOf 41 = .ok (.invokestatic 68, 3) := by decide +kernel
theorem dX7_codeOf_44 : decode cX7_codeOf 44 = .ok (.ireturn, 1) := by decide +kernel
theorem dX7_numberOf_0 : decode cX7_numberOf 0 = .ok (.iload_n 2, 1) := by decide +kernel
theorem dX7_numberOf_1 : decode cX7_numberOf 1 = .ok (.iload_n 1, 1) := by decide +kernel
theorem dX7_numberOf_2 : decode cX7_numberOf 2 = .ok (.isub, 1) := by decide +kernel
theorem dX7_numberOf_3 : decode cX7_numberOf 3 = .ok (.iconst 3, 1) := by decide +kernel
theorem dX7_numberOf_4 : decode cX7_numberOf 4 = .ok (.if_icmp .le 6, 3) := by decide +kernel
theorem dX7_numberOf_7 : decode cX7_numberOf 7 = .ok (.bipush (-2), 2) := by decide +kernel
theorem dX7_numberOf_9 : decode cX7_numberOf 9 = .ok (.ireturn, 1) := by decide +kernel
theorem dX7_numberOf_10 : decode cX7_numberOf 10 = .ok (.iconst 0, 1) := by decide +kernel
theorem dX7_numberOf_11 : decode cX7_numberOf 11 = .ok (.istore_n 3, 1) := by decide +kernel
theorem dX7_numberOf_12 : decode cX7_numberOf 12 = .ok (.iload_n 1, 1) := by decide +kernel
theorem dX7_numberOf_13 : decode cX7_numberOf 13 = .ok (.istore 4, 2) := by decide +kernel
theorem dX7_numberOf_15 : decode cX7_numberOf 15 = .ok (.iload 4, 2) := by decide +kernel
theorem dX7_numberOf_17 : decode cX7_numberOf 17 = .ok (.iload_n 2, 1) := by decide +kernel
theorem dX7_numberOf_18 : decode cX7_numberOf 18 = .ok (.if_icmp .ge 24, 3) := by decide +kernel
theorem dX7_numberOf_21 : decode cX7_numberOf 21 = .ok (.iload_n 3, 1) := by decide +kernel
theorem dX7_numberOf_22 : decode cX7_numberOf 22 = .ok (.bipush 10, 2) := by decide +kernel
theorem dX7_numberOf_24 : decode cX7_numberOf 24 = .ok (.imul, 1) := by decide +kernel
theorem dX7_numberOf_25 : decode cX7_numberOf 25 = .ok (.aload_n 0, 1) := by decide +kernel
theorem dX7_numberOf_26 : decode cX7_numberOf 26 = .ok (.iload 4, 2) := by decide +kernel
theorem dX7_numberOf_28 : decode cX7_numberOf 28 = .ok (.invokevirtual 58, 3) := by decide +kernel
theorem dX7_numberOf_31 : decode cX7_numberOf 31 = .ok (.iadd, 1) := by decide +kernel
theorem dX7_numberOf_32 : decode cX7_numberOf 32 = .ok (.bipush 48, 2) := by decide +kernel
theorem dX7_numberOf_34 : decode cX7_numberOf 34 = .ok (.isub, 1) := by decide +kernel
theorem dX7_numberOf_35 : decode cX7_numberOf 35 = .ok (.istore_n 3, 1) := by decide +kernel
theorem dX7_numberOf_36 : decode cX7_numberOf 36 = .ok (.iinc 4 1, 3) := by decide +kernel
theorem dX7_numberOf_39 : decode cX7_numberOf 39 = .ok (.goto (-24), 3) := by decide +kernel
theorem dX7_numberOf_42 : decode cX7_numberOf 42 = .ok (.iload_n 3, 1) := by decide +kernel
theorem dX7_numberOf_43 : decode cX7_numberOf 43 = .ok (.ireturn, 1) := by decide +kernel
theorem dX7_wordOf_0 : decode cX7_wordOf 0 = .ok (.sipush 1000, 3) := by decide +kernel
theorem dX7_wordOf_3 : decode cX7_wordOf 3 = .ok (.istore_n 3, 1) := by decide +kernel
theorem dX7_wordOf_4 : decode cX7_wordOf 4 = .ok (.iload_n 1, 1) := by decide +kernel
theorem dX7_wordOf_5 : decode cX7_wordOf 5 = .ok (.istore 4, 2) := by decide +kernel
theorem dX7_wordOf_7 : decode cX7_wordOf 7 = .ok (.iconst 1, 1) := by decide +kernel
theorem dX7_wordOf_8 : decode cX7_wordOf 8 = .ok (.istore 5, 2) := by decide +kernel
theorem dX7_wordOf_10 : decode cX7_wordOf 10 = .ok (.iconst 0, 1) := by decide +kernel
theorem dX7_wordOf_11 : decode cX7_wordOf 11 = .ok (.istore 6, 2) := by decide +kernel
theorem dX7_wordOf_13 : decode cX7_wordOf 13 = .ok (.iload 6, 2) := by decide +kernel
theorem dX7_wordOf_15 : decode cX7_wordOf 15 = .ok (.ldc 71, 2) := by decide +kernel
theorem dX7_wordOf_17 : decode cX7_wordOf 17 = .ok (.invokevirtual 73, 3) := by decide +kernel
theorem dX7_wordOf_20 : decode cX7_wordOf 20 = .ok (.if_icmp .ge 82, 3) := by decide +kernel
theorem dX7_wordOf_23 : decode cX7_wordOf 23 = .ok (.ldc 71, 2) := by decide +kernel
theorem dX7_wordOf_25 : decode cX7_wordOf 25 = .ok (.iload 6, 2) := by decide +kernel
theorem dX7_wordOf_27 : decode cX7_wordOf 27 = .ok (.invokevirtual 78, 3) := by decide +kernel
theorem dX7_wordOf_30 : decode cX7_wordOf 30 = .ok (.istore 7, 2) := by decide +kernel
theorem dX7_wordOf_32 : decode cX7_wordOf 32 = .ok (.iload 7, 2) := by decide +kernel
theorem dX7_wordOf_34 : decode cX7_wordOf 34 = .ok (.bipush 32, 2) := by decide +kernel
theorem dX7_wordOf_36 : decode cX7_wordOf 36 = .ok (.if_icmp .eq 38, 3) := by decide +kernel
theorem dX7_wordOf_39 : decode cX7_wordOf 39 = .ok (.iload 5, 2) := by decide +kernel
theorem dX7_wordOf_41 : decode cX7_wordOf 41 = .ok (.ifCond .eq 24, 3) := by decide +kernel
theorem dX7_wordOf_44 : decode cX7_wordOf 44 = .ok (.iload 4, 2) := by decide +kernel
theorem dX7_wordOf_46 : decode cX7_wordOf 46 = .ok (.iload_n 2, 1) := by decide +kernel
theorem dX7_wordOf_47 : decode cX7_wordOf 47 = .ok (.if_icmp .ge 18, 3) := by decide +kernel
theorem dX7_wordOf_50 : decode cX7_wordOf 50 = .ok (.aload_n 0, 1) := by decide +kernel
theorem dX7_wordOf_51 : decode cX7_wordOf 51 = .ok (.iload 4, 2) := by decide +kernel
theorem dX7_wordOf_53 : decode cX7_wordOf 53 = .ok (.invokevirtual 58, 3) := by decide +kernel
theorem dX7_wordOf_56 : decode cX7_wordOf 56 = .ok (.iload 7, 2) := by decide +kernel
theorem dX7_wordOf_58 : decode cX7_wordOf 58 = .ok (.if_icmp .ne 7, 3) := by decide +kernel
theorem dX7_wordOf_61 : decode cX7_wordOf 61 = .ok (.iconst 1, 1) := by decide +kernel
theorem dX7_wordOf_62 : decode cX7_wordOf 62 = .ok (.goto 4, 3) := by decide +kernel
theorem dX7_wordOf_65 : decode cX7_wordOf 65 = .ok (.iconst 0, 1) := by decide +kernel
theorem dX7_wordOf_66 : decode cX7_wordOf 66 = .ok (.istore 5, 2) := by decide +kernel
theorem dX7_wordOf_68 : decode cX7_wordOf 68 = .ok (.iinc 4 1, 3) := by decide +kernel
theorem dX7_wordOf_71 : decode cX7_wordOf 71 = .ok (.goto 25, 3) := by decide +kernel
theorem dX7_wordOf_74 : decode cX7_wordOf 74 = .ok (.iload 5, 2) := by decide +kernel
theorem dX7_wordOf_76 : decode cX7_wordOf 76 = .ok (.ifCond .eq 11, 3) := by decide +kernel
theorem dX7_wordOf_79 : decode cX7_wordOf 79 = .ok (.iload 4, 2) := by decide +kernel
theorem dX7_wordOf_81 : decode cX7_wordOf 81 = .ok (.iload_n 2, 1) := by decide +kernel
theorem dX7_wordOf_82 : decode cX7_wordOf 82 = .ok (.if_icmp .ne 5, 3) := by decide +kernel
theorem dX7_wordOf_85 : decode cX7_wordOf 85 = .ok (.iload_n 3, 1) := by decide +kernel
theorem dX7_wordOf_86 : decode cX7_wordOf 86 = .ok (.ireturn, 1) := by decide +kernel
theorem dX7_wordOf_87 : decode cX7_wordOf 87 = .ok (.iinc 3 1, 3) := by decide +kernel
theorem dX7_wordOf_90 : decode cX7_wordOf 90 = .ok (.iload_n 1, 1) := by decide +kernel
theorem dX7_wordOf_91 : decode cX7_wordOf 91 = .ok (.istore 4, 2) := by decide +kernel
theorem dX7_wordOf_93 : decode cX7_wordOf 93 = .ok (.iconst 1, 1) := by decide +kernel
theorem dX7_wordOf_94 : decode cX7_wordOf 94 = .ok (.istore 5, 2) := by decide +kernel
theorem dX7_wordOf_96 : decode cX7_wordOf 96 = .ok (.iinc 6 1, 3) := by decide +kernel
theorem dX7_wordOf_99 : decode cX7_wordOf 99 = .ok (.goto (-86), 3) := by decide +kernel
theorem dX7_wordOf_102 : decode cX7_wordOf 102 = .ok (.bipush (-2), 2) := by decide +kernel
theorem dX7_wordOf_104 : decode cX7_wordOf 104 = .ok (.ireturn, 1) := by decide +kernel
theorem dX7_step_0 : decode cX7_step 0 = .ok (.aload_n 0, 1) := by decide +kernel
theorem dX7_step_1 : decode cX7_step 1 = .ok (.getfield 25, 3) := by decide +kernel
theorem dX7_step_4 : decode cX7_step 4 = .ok (.aload_n 0, 1) := by decide +kernel
theorem dX7_step_5 : decode cX7_step 5 = .ok (.getfield 21, 3) := by decide +kernel
theorem dX7_step_8 : decode cX7_step 8 = .ok (.if_icmp .ge 13, 3) := by decide +kernel
theorem dX7_step_11 : decode cX7_step 11 = .ok (.aload_n 0, 1) := by decide +kernel
theorem dX7_step_12 : decode cX7_step 12 = .ok (.dup, 1) := by decide +kernel
theorem dX7_step_13 : decode cX7_step 13 = .ok (.getfield 25, 3) := by decide +kernel
theorem dX7_step_16 : decode cX7_step 16 = .ok (.iconst 1, 1) := by decide +kernel
theorem dX7_step_17 : decode cX7_step 17 = .ok (.iadd, 1) := by decide +kernel
theorem dX7_step_18 : decode cX7_step 18 = .ok (.putfield 25, 3) := by decide +kernel
theorem dX7_step_21 : decode cX7_step 21 = .ok (.aload_n 0, 1) := by decide +kernel
theorem dX7_step_22 : decode cX7_step 22 = .ok (.getfield 25, 3) := by decide +kernel
theorem dX7_step_25 : decode cX7_step 25 = .ok (.ifCond .lt 41, 3) := by decide +kernel
theorem dX7_step_28 : decode cX7_step 28 = .ok (.aload_n 0, 1) := by decide +kernel
theorem dX7_step_29 : decode cX7_step 29 = .ok (.getfield 25, 3) := by decide +kernel
theorem dX7_step_32 : decode cX7_step 32 = .ok (.aload_n 0, 1) := by decide +kernel
theorem dX7_step_33 : decode cX7_step 33 = .ok (.getfield 9, 3) := by decide +kernel
theorem dX7_step_36 : decode cX7_step 36 = .ok (.arraylength, 1) := by decide +kernel
theorem dX7_step_37 : decode cX7_step 37 = .ok (.if_icmp .ge 29, 3) := by decide +kernel
theorem dX7_step_40 : decode cX7_step 40 = .ok (.aload_n 0, 1) := by decide +kernel
theorem dX7_step_41 : decode cX7_step 41 = .ok (.aload_n 0, 1) := by decide +kernel
theorem dX7_step_42 : decode cX7_step 42 = .ok (.getfield 9, 3) := by decide +kernel
theorem dX7_step_45 : decode cX7_step 45 = .ok (.aload_n 0, 1) := by decide +kernel
theorem dX7_step_46 : decode cX7_step 46 = .ok (.getfield 25, 3) := by decide +kernel
theorem dX7_step_49 : decode cX7_step 49 = .ok (.iaload, 1) := by decide +kernel
theorem dX7_step_50 : decode cX7_step 50 = .ok (.putfield 28, 3) := by decide +kernel
theorem dX7_step_53 : decode cX7_step 53 = .ok (.aload_n 0, 1) := by decide +kernel
theorem dX7_step_54 : decode cX7_step 54 = .ok (.aload_n 0, 1) := by decide +kernel
theorem dX7_step_55 : decode cX7_step 55 = .ok (.getfield 15, 3) := by decide +kernel
theorem dX7_step_58 : decode cX7_step 58 = .ok (.aload_n 0, 1) := by decide +kernel
theorem dX7_step_59 : decode cX7_step 59 = .ok (.getfield 25, 3) := by decide +kernel
theorem dX7_step_62 : decode cX7_step 62 = .ok (.iaload, 1) := by decide +kernel
theorem dX7_step_63 : decode cX7_step 63 = .ok (.putfield 31, 3) := by decide +kernel
theorem dX7_step_66 : decode cX7_step 66 = .ok (.return_, 1) := by decide +kernel
theorem dX7_is_0 : decode cX7_is 0 = .ok (.aload_n 0, 1) := by decide +kernel
theorem dX7_is_1 : decode cX7_is 1 = .ok (.getfield 28, 3) := by decide +kernel
theorem dX7_is_4 : decode cX7_is 4 = .ok (.iload_n 1, 1) := by decide +kernel
theorem dX7_is_5 : decode cX7_is 5 = .ok (.if_icmp .ne 7, 3) := by decide +kernel
theorem dX7_is_8 : decode cX7_is 8 = .ok (.iconst 1, 1) := by decide +kernel
theorem dX7_is_9 : decode cX7_is 9 = .ok (.goto 4, 3) := by decide +kernel
theorem dX7_is_12 : decode cX7_is 12 = .ok (.iconst 0, 1) := by decide +kernel
theorem dX7_is_13 : decode cX7_is 13 = .ok (.ireturn, 1) := by decide +kernel
theorem dX7_take_0 : decode cX7_take 0 = .ok (.aload_n 0, 1) := by decide +kernel
theorem dX7_take_1 : decode cX7_take 1 = .ok (.getfield 28, 3) := by decide +kernel
theorem dX7_take_4 : decode cX7_take 4 = .ok (.iload_n 1, 1) := by decide +kernel
theorem dX7_take_5 : decode cX7_take 5 = .ok (.if_icmp .eq 5, 3) := by decide +kernel
theorem dX7_take_8 : decode cX7_take 8 = .ok (.iconst 0, 1) := by decide +kernel
theorem dX7_take_9 : decode cX7_take 9 = .ok (.ireturn, 1) := by decide +kernel
theorem dX7_take_10 : decode cX7_take 10 = .ok (.aload_n 0, 1) := by decide +kernel
theorem dX7_take_11 : decode cX7_take 11 = .ok (.invokevirtual 55, 3) := by decide +kernel
theorem dX7_take_14 : decode cX7_take 14 = .ok (.iconst 1, 1) := by decide +kernel
theorem dX7_take_15 : decode cX7_take 15 = .ok (.ireturn, 1) := by decide +kernel
theorem dX7_need_0 : decode cX7_need 0 = .ok (.aload_n 0, 1) := by decide +kernel
theorem dX7_need_1 : decode cX7_need 1 = .ok (.iload_n 1, 1) := by decide +kernel
theorem dX7_need_2 : decode cX7_need 2 = .ok (.invokevirtual 82, 3) := by decide +kernel
theorem dX7_need_5 : decode cX7_need 5 = .ok (.ifCond .ne 7, 3) := by decide +kernel
theorem dX7_need_8 : decode cX7_need 8 = .ok (.aload_n 0, 1) := by decide +kernel
theorem dX7_need_9 : decode cX7_need 9 = .ok (.invokevirtual 86, 3) := by decide +kernel
theorem dX7_need_12 : decode cX7_need 12 = .ok (.return_, 1) := by decide +kernel
theorem dX7_among_0 : decode cX7_among 0 = .ok (.aload_n 0, 1) := by decide +kernel
theorem dX7_among_1 : decode cX7_among 1 = .ok (.getfield 28, 3) := by decide +kernel
theorem dX7_among_4 : decode cX7_among 4 = .ok (.iload_n 1, 1) := by decide +kernel
theorem dX7_among_5 : decode cX7_among 5 = .ok (.isub, 1) := by decide +kernel
theorem dX7_among_6 : decode cX7_among 6 = .ok (.istore_n 3, 1) := by decide +kernel
theorem dX7_among_7 : decode cX7_among 7 = .ok (.iload_n 3, 1) := by decide +kernel
theorem dX7_among_8 : decode cX7_among 8 = .ok (.ifCond .lt 8, 3) := by decide +kernel
theorem dX7_among_11 : decode cX7_among 11 = .ok (.iload_n 3, 1) := by decide +kernel
theorem dX7_among_12 : decode cX7_among 12 = .ok (.iload_n 2, 1) := by decide +kernel
theorem dX7_among_13 : decode cX7_among 13 = .ok (.if_icmp .lt 7, 3) := by decide +kernel
theorem dX7_among_16 : decode cX7_among 16 = .ok (.aload_n 0, 1) := by decide +kernel
theorem dX7_among_17 : decode cX7_among 17 = .ok (.invokevirtual 86, 3) := by decide +kernel
theorem dX7_among_20 : decode cX7_among 20 = .ok (.aload_n 0, 1) := by decide +kernel
theorem dX7_among_21 : decode cX7_among 21 = .ok (.invokevirtual 55, 3) := by decide +kernel
theorem dX7_among_24 : decode cX7_among 24 = .ok (.iload_n 3, 1) := by decide +kernel
theorem dX7_among_25 : decode cX7_among 25 = .ok (.ireturn, 1) := by decide +kernel
theorem dX7_number_0 : decode cX7_number 0 = .ok (.aload_n 0, 1) := by decide +kernel
theorem dX7_number_1 : decode cX7_number 1 = .ok (.iconst 0, 1) := by decide +kernel
theorem dX7_number_2 : decode cX7_number 2 = .ok (.iload_n 1, 1) := by decide +kernel
theorem dX7_number_3 : decode cX7_number 3 = .ok (.iconst 1, 1) := by decide +kernel
theorem dX7_number_4 : decode cX7_number 4 = .ok (.iadd, 1) := by decide +kernel
theorem dX7_number_5 : decode cX7_number 5 = .ok (.invokevirtual 89, 3) := by decide +kernel
theorem dX7_number_8 : decode cX7_number 8 = .ok (.ireturn, 1) := by decide +kernel
theorem dX7_wrong_0 : decode cX7_wrong 0 = .ok (.aload_n 0, 1) := by decide +kernel
theorem dX7_wrong_1 : decode cX7_wrong 1 = .ok (.aload_n 0, 1) := by decide +kernel
theorem dX7_wrong_2 : decode cX7_wrong 2 = .ok (.getfield 31, 3) := by decide +kernel
theorem dX7_wrong_5 : decode cX7_wrong 5 = .ok (.putfield 34, 3) := by decide +kernel
theorem dX7_wrong_8 : decode cX7_wrong 8 = .ok (.new 93, 3) := by decide +kernel
theorem dX7_wrong_11 : decode cX7_wrong 11 = .ok (.dup, 1) := by decide +kernel
theorem dX7_wrong_12 : decode cX7_wrong 12 = .ok (.ldc 95, 2) := by decide +kernel
theorem dX7_wrong_14 : decode cX7_wrong 14 = .ok (.invokespecial 97, 3) := by decide +kernel
theorem dX7_wrong_17 : decode cX7_wrong 17 = .ok (.athrow, 1) := by decide +kernel
theorem dX8_init_0 : decode cX8_init 0 = .ok (.aload_n 0, 1) := by decide +kernel
theorem dX8_init_1 : decode cX8_init 1 = .ok (.invokespecial 3, 3) := by decide +kernel
theorem dX8_init_4 : decode cX8_init 4 = .ok (.aload_n 0, 1) := by decide +kernel
theorem dX8_init_5 : decode cX8_init 5 = .ok (.new 9, 3) := by decide +kernel
theorem dX8_init_8 : decode cX8_init 8 = .ok (.dup, 1) := by decide +kernel
theorem dX8_init_9 : decode cX8_init 9 = .ok (.invokespecial 11, 3) := by decide +kernel
theorem dX8_init_12 : decode cX8_init 12 = .ok (.putfield 12, 3) := by decide +kernel
theorem dX8_init_15 : decode cX8_init 15 = .ok (.aload_n 0, 1) := by decide +kernel
theorem dX8_init_16 : decode cX8_init 16 = .ok (.new 18, 3) := by decide +kernel
theorem dX8_init_19 : decode cX8_init 19 = .ok (.dup, 1) := by decide +kernel
theorem dX8_init_20 : decode cX8_init 20 = .ok (.invokespecial 20, 3) := by decide +kernel
theorem dX8_init_23 : decode cX8_init 23 = .ok (.putfield 21, 3) := by decide +kernel
theorem dX8_init_26 : decode cX8_init 26 = .ok (.aload_n 0, 1) := by decide +kernel
theorem dX8_init_27 : decode cX8_init 27 = .ok (.new 25, 3) := by decide +kernel
theorem dX8_init_30 : decode cX8_init 30 = .ok (.dup, 1) := by decide +kernel
theorem dX8_init_31 : decode cX8_init 31 = .ok (.invokespecial 27, 3) := by decide +kernel
theorem dX8_init_34 : decode cX8_init 34 = .ok (.putfield 28, 3) := by decide +kernel
theorem dX8_init_37 : decode cX8_init 37 = .ok (.aload_n 0, 1) := by decide +kernel
theorem dX8_init_38 : decode cX8_init 38 = .ok (.bipush 8, 2) := by decide +kernel
theorem dX8_init_40 : decode cX8_init 40 = .ok (.newarray .int, 2) := by decide +kernel
theorem dX8_init_42 : decode cX8_init 42 = .ok (.putfield 32, 3) := by decide +kernel
theorem dX8_init_45 : decode cX8_init 45 = .ok (.aload_n 0, 1) := by decide +kernel
theorem dX8_init_46 : decode cX8_init 46 = .ok (.bipush 8, 2) := by decide +kernel
theorem dX8_init_48 : decode cX8_init 48 = .ok (.newarray .int, 2) := by decide +kernel
theorem dX8_init_50 : decode cX8_init 50 = .ok (.putfield 36, 3) := by decide +kernel
theorem dX8_init_53 : decode cX8_init 53 = .ok (.aload_n 0, 1) := by decide +kernel
theorem dX8_init_54 : decode cX8_init 54 = .ok (.iconst 4, 1) := by decide +kernel
theorem dX8_init_55 : decode cX8_init 55 = .ok (.newarray .int, 2) := by decide +kernel
theorem dX8_init_57 : decode cX8_init 57 = .ok (.putfield 39, 3) := by decide +kernel
theorem dX8_init_60 : decode cX8_init 60 = .ok (.aload_n 0, 1) := by decide +kernel
theorem dX8_init_61 : decode cX8_init 61 = .ok (.iconst 0, 1) := by decide +kernel
theorem dX8_init_62 : decode cX8_init 62 = .ok (.putfield 42, 3) := by decide +kernel
theorem dX8_init_65 : decode cX8_init 65 = .ok (.aload_n 0, 1) := by decide +kernel
theorem dX8_init_66 : decode cX8_init 66 = .ok (.iconst 0, 1) := by decide +kernel
theorem dX8_init_67 : decode cX8_init 67 = .ok (.putfield 46, 3) := by decide +kernel
theorem dX8_init_70 : decode cX8_init 70 = .ok (.aload_n 0, 1) := by decide +kernel
theorem dX8_init_71 : decode cX8_init 71 = .ok (.iconst 0, 1) := by decide +kernel
theorem dX8_init_72 : decode cX8_init 72 = .ok (.putfield 49, 3) := by decide +kernel
theorem dX8_init_75 : decode cX8_init 75 = .ok (.aload_n 0, 1) := by decide +kernel
theorem dX8_init_76 : decode cX8_init 76 = .ok (.iconst 0, 1) := by decide +kernel
theorem dX8_init_77 : decode cX8_init 77 = .ok (.putfield 52, 3) := by decide +kernel
theorem dX8_init_80 : decode cX8_init 80 = .ok (.aload_n 0, 1) := by decide +kernel
theorem dX8_init_81 : decode cX8_init 81 = .ok (.iconst 0, 1) := by decide +kernel
theorem dX8_init_82 : decode cX8_init 82 = .ok (.putfield 56, 3) := by decide +kernel
theorem dX8_init_85 : decode cX8_init 85 = .ok (.aload_n 0, 1) := by decide +kernel
theorem dX8_init_86 : decode cX8_init 86 = .ok (.iconst 1, 1) := by decide +kernel
theorem dX8_init_87 : decode cX8_init 87 = .ok (.putfield 59, 3) := by decide +kernel
theorem dX8_init_90 : decode cX8_init 90 = .ok (.iconst 0, 1) := by decide +kernel
theorem dX8_init_91 : decode cX8_init 91 = .ok (.istore_n 1, 1) := by decide +kernel
theorem dX8_init_92 : decode cX8_init 92 = .ok (.iload_n 1, 1) := by decide +kernel
theorem dX8_init_93 : decode cX8_init 93 = .ok (.iconst 4, 1) := by decide +kernel
theorem dX8_init_94 : decode cX8_init 94 = .ok (.if_icmp .ge 16, 3) := by decide +kernel
theorem dX8_init_97 : decode cX8_init 97 = .ok (.aload_n 0, 1) := by decide +kernel
theorem dX8_init_98 : decode cX8_init 98 = .ok (.getfield 39, 3) := by decide +kernel
theorem dX8_init_101 : decode cX8_init 101 = .ok (.iload_n 1, 1) := by decide +kernel
theorem dX8_init_102 : decode cX8_init 102 = .ok (.iconst 3, 1) := by decide +kernel
theorem dX8_init_103 : decode cX8_init 103 = .ok (.iastore, 1) := by decide +kernel
theorem dX8_init_104 : decode cX8_init 104 = .ok (.iinc 1 1, 3) := by decide +kernel
theorem dX8_init_107 : decode cX8_init 107 = .ok (.goto (-15), 3) := by decide +kernel
theorem dX8_init_110 : decode cX8_init 110 = .ok (.return_, 1) := by decide +kernel
theorem dX8_copyFrom_0 : decode cX8_copyFrom 0 = .ok (.aload_n 0, 1) := by decide +kernel
theorem dX8_copyFrom_1 : decode cX8_copyFrom 1 = .ok (.getfield 12, 3) := by decide +kernel
theorem dX8_copyFrom_4 : decode cX8_copyFrom 4 = .ok (.aload_n 1, 1) := by decide +kernel
theorem dX8_copyFrom_5 : decode cX8_copyFrom 5 = .ok (.getfield 12, 3) := by decide +kernel
theorem dX8_copyFrom_8 : decode cX8_copyFrom 8 = .ok (.invokevirtual 62, 3) := by decide +kernel
theorem dX8_copyFrom_11 : decode cX8_copyFrom 11 = .ok (.aload_n 0, 1) := by decide +kernel
theorem dX8_copyFrom_12 : decode cX8_copyFrom 12 = .ok (.getfield 21, 3) := by decide +kernel
theorem dX8_copyFrom_15 : decode cX8_copyFrom 15 = .ok (.aload_n 1, 1) := by decide +kernel
theorem dX8_copyFrom_16 : decode cX8_copyFrom 16 = .ok (.getfield 21, 3) := by decide +kernel
theorem dX8_copyFrom_19 : decode cX8_copyFrom 19 = .ok (.invokevirtual 66, 3) := by decide +kernel
theorem dX8_copyFrom_22 : decode cX8_copyFrom 22 = .ok (.aload_n 0, 1) := by decide +kernel
theorem dX8_copyFrom_23 : decode cX8_copyFrom 23 = .ok (.getfield 28, 3) := by decide +kernel
theorem dX8_copyFrom_26 : decode cX8_copyFrom 26 = .ok (.aload_n 1, 1) := by decide +kernel
theorem dX8_copyFrom_27 : decode cX8_copyFrom 27 = .ok (.getfield 28, 3) := by decide +kernel
theorem dX8_copyFrom_30 : decode cX8_copyFrom 30 = .ok (.invokevirtual 69, 3) := by decide +kernel
theorem dX8_copyFrom_33 : decode cX8_copyFrom 33 = .ok (.aload_n 1, 1) := by decide +kernel
theorem dX8_copyFrom_34 : decode cX8_copyFrom 34 = .ok (.getfield 32, 3) := by decide +kernel
theorem dX8_copyFrom_37 : decode cX8_copyFrom 37 = .ok (.aload_n 0, 1) := by decide +kernel
theorem dX8_copyFrom_38 : decode cX8_copyFrom 38 = .ok (.getfield 32, 3) := by decide +kernel
theorem dX8_copyFrom_41 : decode cX8_copyFrom 41 = .ok (.invokestatic 72, 3) := by decide +kernel
theorem dX8_copyFrom_44 : decode cX8_copyFrom 44 = .ok (.aload_n 1, 1) := by decide +kernel
theorem dX8_copyFrom_45 : decode cX8_copyFrom 45 = .ok (.getfield 36, 3) := by decide +kernel
theorem dX8_copyFrom_48 : decode cX8_copyFrom 48 = .ok (.aload_n 0, 1) := by decide +kernel
theorem dX8_copyFrom_49 : decode cX8_copyFrom 49 = .ok (.getfield 36, 3) := by decide +kernel
theorem dX8_copyFrom_52 : decode cX8_copyFrom 52 = .ok (.invokestatic 72, 3) := by decide +kernel
theorem dX8_copyFrom_55 : decode cX8_copyFrom 55 = .ok (.aload_n 1, 1) := by decide +kernel
theorem dX8_copyFrom_56 : decode cX8_copyFrom 56 = .ok (.getfield 39, 3) := by decide +kernel
theorem dX8_copyFrom_59 : decode cX8_copyFrom 59 = .ok (.aload_n 0, 1) := by decide +kernel
theorem dX8_copyFrom_60 : decode cX8_copyFrom 60 = .ok (.getfield 39, 3) := by decide +kernel
theorem dX8_copyFrom_63 : decode cX8_copyFrom 63 = .ok (.invokestatic 72, 3) := by decide +kernel
theorem dX8_copyFrom_66 : decode cX8_copyFrom 66 = .ok (.aload_n 0, 1) := by decide +kernel
theorem dX8_copyFrom_67 : decode cX8_copyFrom 67 = .ok (.aload_n 1, 1) := by decide +kernel
theorem dX8_copyFrom_68 : decode cX8_copyFrom 68 = .ok (.getfield 42, 3) := by decide +kernel
theorem dX8_copyFrom_71 : decode cX8_copyFrom 71 = .ok (.putfield 42, 3) := by decide +kernel
theorem dX8_copyFrom_74 : decode cX8_copyFrom 74 = .ok (.aload_n 0, 1) := by decide +kernel
theorem dX8_copyFrom_75 : decode cX8_copyFrom 75 = .ok (.aload_n 1, 1) := by decide +kernel
theorem dX8_copyFrom_76 : decode cX8_copyFrom 76 = .ok (.getfield 46, 3) := by decide +kernel
theorem dX8_copyFrom_79 : decode cX8_copyFrom 79 = .ok (.putfield 46, 3) := by decide +kernel
theorem dX8_copyFrom_82 : decode cX8_copyFrom 82 = .ok (.aload_n 0, 1) := by decide +kernel
theorem dX8_copyFrom_83 : decode cX8_copyFrom 83 = .ok (.aload_n 1, 1) := by decide +kernel
theorem dX8_copyFrom_84 : decode cX8_copyFrom 84 = .ok (.getfield 49, 3) := by decide +kernel
theorem dX8_copyFrom_87 : decode cX8_copyFrom 87 = .ok (.putfield 49, 3) := by decide +kernel
theorem dX8_copyFrom_90 : decode cX8_copyFrom 90 = .ok (.aload_n 0, 1) := by decide +kernel
theorem dX8_copyFrom_91 : decode cX8_copyFrom 91 = .ok (.aload_n 1, 1) := by decide +kernel
theorem dX8_copyFrom_92 : decode cX8_copyFrom 92 = .ok (.getfield 52, 3) := by decide +kernel
theorem dX8_copyFrom_95 : decode cX8_copyFrom 95 = .ok (.putfield 52, 3) := by decide +kernel
theorem dX8_copyFrom_98 : decode cX8_copyFrom 98 = .ok (.aload_n 0, 1) := by decide +kernel
theorem dX8_copyFrom_99 : decode cX8_copyFrom 99 = .ok (.aload_n 1, 1) := by decide +kernel
theorem dX8_copyFrom_100 : decode cX8_copyFrom 100 = .ok (.getfield 56, 3) := by decide +kernel
theorem dX8_copyFrom_103 : decode cX8_copyFrom 103 = .ok (.putfield 56, 3) := by decide +kernel
theorem dX8_copyFrom_106 : decode cX8_copyFrom 106 = .ok (.aload_n 0, 1) := by decide +kernel
theorem dX8_copyFrom_107 : decode cX8_copyFrom 107 = .ok (.aload_n 1, 1) := by decide +kernel
theorem dX8_copyFrom_108 : decode cX8_copyFrom 108 = .ok (.getfield 59, 3) := by decide +kernel
theorem dX8_copyFrom_111 : decode cX8_copyFrom 111 = .ok (.putfield 59, 3) := by decide +kernel
theorem dX8_copyFrom_114 : decode cX8_copyFrom 114 = .ok (.return_, 1) := by decide +kernel
theorem dX8_heatNow_0 : decode cX8_heatNow 0 = .ok (.aload_n 0, 1) := by decide +kernel
theorem dX8_heatNow_1 : decode cX8_heatNow 1 = .ok (.getfield 39, 3) := by decide +kernel
theorem dX8_heatNow_4 : decode cX8_heatNow 4 = .ok (.aload_n 0, 1) := by decide +kernel
theorem dX8_heatNow_5 : decode cX8_heatNow 5 = .ok (.getfield 46, 3) := by decide +kernel
theorem dX8_heatNow_8 : decode cX8_heatNow 8 = .ok (.iconst 4, 1) := by decide +kernel
theorem dX8_heatNow_9 : decode cX8_heatNow 9 = .ok (.irem, 1) := by decide +kernel
theorem dX8_heatNow_10 : decode cX8_heatNow 10 = .ok (.invokestatic 76, 3) := by decide +kernel
theorem dX8_heatNow_13 : decode cX8_heatNow 13 = .ok (.ireturn, 1) := by decide +kernel
theorem dX8_pass_0 : decode cX8_pass 0 = .ok (.aload_n 0, 1) := by decide +kernel
theorem dX8_pass_1 : decode cX8_pass 1 = .ok (.aload_n 1, 1) := by decide +kernel
theorem dX8_pass_2 : decode cX8_pass 2 = .ok (.invokevirtual 80, 3) := by decide +kernel
theorem dX8_pass_5 : decode cX8_pass 5 = .ok (.istore_n 3, 1) := by decide +kernel
theorem dX8_pass_6 : decode cX8_pass 6 = .ok (.aload_n 0, 1) := by decide +kernel
theorem dX8_pass_7 : decode cX8_pass 7 = .ok (.getfield 12, 3) := by decide +kernel
theorem dX8_pass_10 : decode cX8_pass 10 = .ok (.invokevirtual 84, 3) := by decide +kernel
theorem dX8_pass_13 : decode cX8_pass 13 = .ok (.aload_n 0, 1) := by decide +kernel
theorem dX8_pass_14 : decode cX8_pass 14 = .ok (.invokevirtual 87, 3) := by decide +kernel
theorem dX8_pass_17 : decode cX8_pass 17 = .ok (.iload_n 2, 1) := by decide +kernel
theorem dX8_pass_18 : decode cX8_pass 18 = .ok (.ifCond .eq 7, 3) := by decide +kernel
theorem dX8_pass_21 : decode cX8_pass 21 = .ok (.aload_n 0, 1) := by decide +kernel
theorem dX8_pass_22 : decode cX8_pass 22 = .ok (.invokevirtual 90, 3) := by decide +kernel
theorem dX8_pass_25 : decode cX8_pass 25 = .ok (.aload_n 0, 1) := by decide +kernel
theorem dX8_pass_26 : decode cX8_pass 26 = .ok (.invokevirtual 93, 3) := by decide +kernel
theorem dX8_pass_29 : decode cX8_pass 29 = .ok (.iload_n 3, 1) := by decide +kernel
theorem dX8_pass_30 : decode cX8_pass 30 = .ok (.ireturn, 1) := by decide +kernel
theorem dX8_turnAll_0 : decode cX8_turnAll 0 = .ok (.iconst 0, 1) := by decide +kernel
theorem dX8_turnAll_1 : decode cX8_turnAll 1 = .ok (.istore_n 2, 1) := by decide +kernel
theorem dX8_turnAll_2 : decode cX8_turnAll 2 = .ok (.iconst 0, 1) := by decide +kernel
theorem dX8_turnAll_3 : decode cX8_turnAll 3 = .ok (.istore_n 3, 1) := by decide +kernel
theorem dX8_turnAll_4 : decode cX8_turnAll 4 = .ok (.iload_n 3, 1) := by decide +kernel
theorem dX8_turnAll_5 : decode cX8_turnAll 5 = .ok (.aload_n 0, 1) := by decide +kernel
theorem dX8_turnAll_6 : decode cX8_turnAll 6 = .ok (.getfield 21, 3) := by decide +kernel
theorem dX8_turnAll_9 : decode cX8_turnAll 9 = .ok (.getfield 96, 3) := by decide +kernel
theorem dX8_turnAll_12 : decode cX8_turnAll 12 = .ok (.if_icmp .ge 194, 3) := by decide +kernel
theorem dX8_turnAll_15 : decode cX8_turnAll 15 = .ok (.aload_n 0, 1) := by decide +kernel
theorem dX8_turnAll_16 : decode cX8_turnAll 16 = .ok (.getfield 21, 3) := by decide +kernel
theorem dX8_turnAll_19 : decode cX8_turnAll 19 = .ok (.iload_n 3, 1) := by decide +kernel
theorem dX8_turnAll_20 : decode cX8_turnAll 20 = .ok (.invokevirtual 99, 3) := by decide +kernel
theorem dX8_turnAll_23 : decode cX8_turnAll 23 = .ok (.ifCond .ne 6, 3) := by decide +kernel
theorem dX8_turnAll_26 : decode cX8_turnAll 26 = .ok (.goto 174, 3) := by decide +kernel
theorem dX8_turnAll_29 : decode cX8_turnAll 29 = .ok (.aload_n 0, 1) := by decide +kernel
theorem dX8_turnAll_30 : decode cX8_turnAll 30 = .ok (.aload_n 1, 1) := by decide +kernel
theorem dX8_turnAll_31 : decode cX8_turnAll 31 = .ok (.iload_n 3, 1) := by decide +kernel
theorem dX8_turnAll_32 : decode cX8_turnAll 32 = .ok (.invokevirtual 103, 3) := by decide +kernel
theorem dX8_turnAll_35 : decode cX8_turnAll 35 = .ok (.aload_n 0, 1) := by decide +kernel
theorem dX8_turnAll_36 : decode cX8_turnAll 36 = .ok (.getfield 21, 3) := by decide +kernel
theorem dX8_turnAll_39 : decode cX8_turnAll 39 = .ok (.getfield 107, 3) := by decide +kernel
theorem dX8_turnAll_42 : decode cX8_turnAll 42 = .ok (.iload_n 3, 1) := by decide +kernel
theorem dX8_turnAll_43 : decode cX8_turnAll 43 = .ok (.sipush 999, 3) := by decide +kernel
theorem dX8_turnAll_46 : decode cX8_turnAll 46 = .ok (.aload_n 0, 1) := by decide +kernel
theorem dX8_turnAll_47 : decode cX8_turnAll 47 = .ok (.getfield 21, 3) := by decide +kernel
theorem dX8_turnAll_50 : decode cX8_turnAll 50 = .ok (.getfield 107, 3) := by decide +kernel
theorem dX8_turnAll_53 : decode cX8_turnAll 53 = .ok (.iload_n 3, 1) := by decide +kernel
theorem dX8_turnAll_54 : decode cX8_turnAll 54 = .ok (.iaload, 1) := by decide +kernel
theorem dX8_turnAll_55 : decode cX8_turnAll 55 = .ok (.aload_n 0, 1) := by decide +kernel
theorem dX8_turnAll_56 : decode cX8_turnAll 56 = .ok (.aload_n 1, 1) := by decide +kernel
theorem dX8_turnAll_57 : decode cX8_turnAll 57 = .ok (.sipush 1023, 3) := by decide +kernel
theorem dX8_turnAll_60 : decode cX8_turnAll 60 = .ok (.iload_n 3, 1) := by decide +kernel
theorem dX8_turnAll_61 : decode cX8_turnAll 61 = .ok (.invokevirtual 110, 3) := by decide +kernel
theorem dX8_turnAll_64 : decode cX8_turnAll 64 = .ok (.iadd, 1) := by decide +kernel
theorem dX8_turnAll_65 : decode cX8_turnAll 65 = .ok (.invokestatic 114, 3) := by decide +kernel
theorem dX8_turnAll_68 : decode cX8_turnAll 68 = .ok (.iastore, 1) := by decide +kernel
theorem dX8_turnAll_69 : decode cX8_turnAll 69 = .ok (.aload_n 1, 1) := by decide +kernel
theorem dX8_turnAll_70 : decode cX8_turnAll 70 = .ok (.getfield 120, 3) := by decide +kernel
theorem dX8_turnAll_73 : decode cX8_turnAll 73 = .ok (.iconst 2, 1) := by decide +kernel
theorem dX8_turnAll_74 : decode cX8_turnAll 74 = .ok (.aload_n 0, 1) := by decide +kernel
theorem dX8_turnAll_75 : decode cX8_turnAll 75 = .ok (.getfield 21, 3) := by decide +kernel
theorem dX8_turnAll_78 : decode cX8_turnAll 78 = .ok (.getfield 107, 3) := by decide +kernel
theorem dX8_turnAll_81 : decode cX8_turnAll 81 = .ok (.iload_n 3, 1) := by decide +kernel
theorem dX8_turnAll_82 : decode cX8_turnAll 82 = .ok (.iaload, 1) := by decide +kernel
theorem dX8_turnAll_83 : decode cX8_turnAll 83 = .ok (.invokestatic 125, 3) := by decide +kernel
theorem dX8_turnAll_86 : decode cX8_turnAll 86 = .ok (.iconst 0, 1) := by decide +kernel
theorem dX8_turnAll_87 : decode cX8_turnAll 87 = .ok (.aload_n 0, 1) := by decide +kernel
theorem dX8_turnAll_88 : decode cX8_turnAll 88 = .ok (.aload_n 1, 1) := by decide +kernel
theorem dX8_turnAll_89 : decode cX8_turnAll 89 = .ok (.sipush 1024, 3) := by decide +kernel
theorem dX8_turnAll_92 : decode cX8_turnAll 92 = .ok (.iload_n 3, 1) := by decide +kernel
theorem dX8_turnAll_93 : decode cX8_turnAll 93 = .ok (.invokevirtual 110, 3) := by decide +kernel
theorem dX8_turnAll_96 : decode cX8_turnAll 96 = .ok (.aload_n 0, 1) := by decide +kernel
theorem dX8_turnAll_97 : decode cX8_turnAll 97 = .ok (.aload_n 1, 1) := by decide +kernel
theorem dX8_turnAll_98 : decode cX8_turnAll 98 = .ok (.sipush 1025, 3) := by decide +kernel
theorem dX8_turnAll_101 : decode cX8_turnAll 101 = .ok (.iload_n 3, 1) := by decide +kernel
theorem dX8_turnAll_102 : decode cX8_turnAll 102 = .ok (.invokevirtual 110, 3) := by decide +kernel
theorem dX8_turnAll_105 : decode cX8_turnAll 105 = .ok (.isub, 1) := by decide +kernel
theorem dX8_turnAll_106 : decode cX8_turnAll 106 = .ok (.invokestatic 129, 3) := by decide +kernel
theorem dX8_turnAll_109 : decode cX8_turnAll 109 = .ok (.istore 4, 2) := by decide +kernel
theorem dX8_turnAll_111 : decode cX8_turnAll 111 = .ok (.aload_n 0, 1) := by decide +kernel
theorem dX8_turnAll_112 : decode cX8_turnAll 112 = .ok (.getfield 21, 3) := by decide +kernel
theorem dX8_turnAll_115 : decode cX8_turnAll 115 = .ok (.getfield 107, 3) := by decide +kernel
theorem dX8_turnAll_118 : decode cX8_turnAll 118 = .ok (.iload_n 3, 1) := by decide +kernel
theorem dX8_turnAll_119 : decode cX8_turnAll 119 = .ok (.iconst 0, 1) := by decide +kernel
theorem dX8_turnAll_120 : decode cX8_turnAll 120 = .ok (.aload_n 0, 1) := by decide +kernel
theorem dX8_turnAll_121 : decode cX8_turnAll 121 = .ok (.getfield 21, 3) := by decide +kernel
theorem dX8_turnAll_124 : decode cX8_turnAll 124 = .ok (.getfield 107, 3) := by decide +kernel
theorem dX8_turnAll_127 : decode cX8_turnAll 127 = .ok (.iload_n 3, 1) := by decide +kernel
theorem dX8_turnAll_128 : decode cX8_turnAll 128 = .ok (.iaload, 1) := by decide +kernel
theorem dX8_turnAll_129 : decode cX8_turnAll 129 = .ok (.iload 4, 2) := by decide +kernel
theorem dX8_turnAll_131 : decode cX8_turnAll 131 = .ok (.isub, 1) := by decide +kernel
theorem dX8_turnAll_132 : decode cX8_turnAll 132 = .ok (.invokestatic 129, 3) := by decide +kernel
theorem dX8_turnAll_135 : decode cX8_turnAll 135 = .ok (.iastore, 1) := by decide +kernel
theorem dX8_turnAll_136 : decode cX8_turnAll 136 = .ok (.aload_n 0, 1) := by decide +kernel
theorem dX8_turnAll_137 : decode cX8_turnAll 137 = .ok (.getfield 21, 3) := by decide +kernel
theorem dX8_turnAll_140 : decode cX8_turnAll 140 = .ok (.getfield 132, 3) := by decide +kernel
theorem dX8_turnAll_143 : decode cX8_turnAll 143 = .ok (.iload_n 3, 1) := by decide +kernel
theorem dX8_turnAll_144 : decode cX8_turnAll 144 = .ok (.bipush 99, 2) := by decide +kernel
theorem dX8_turnAll_146 : decode cX8_turnAll 146 = .ok (.aload_n 0, 1) := by decide +kernel
theorem dX8_turnAll_147 : decode cX8_turnAll 147 = .ok (.getfield 21, 3) := by decide +kernel
theorem dX8_turnAll_150 : decode cX8_turnAll 150 = .ok (.getfield 132, 3) := by decide +kernel
theorem dX8_turnAll_153 : decode cX8_turnAll 153 = .ok (.iload_n 3, 1) := by decide +kernel
theorem dX8_turnAll_154 : decode cX8_turnAll 154 = .ok (.iaload, 1) := by decide +kernel
theorem dX8_turnAll_155 : decode cX8_turnAll 155 = .ok (.iconst 1, 1) := by decide +kernel
theorem dX8_turnAll_156 : decode cX8_turnAll 156 = .ok (.iadd, 1) := by decide +kernel
theorem dX8_turnAll_157 : decode cX8_turnAll 157 = .ok (.invokestatic 114, 3) := by decide +kernel
theorem dX8_turnAll_160 : decode cX8_turnAll 160 = .ok (.iastore, 1) := by decide +kernel
theorem dX8_turnAll_161 : decode cX8_turnAll 161 = .ok (.aload_n 0, 1) := by decide +kernel
theorem dX8_turnAll_162 : decode cX8_turnAll 162 = .ok (.getfield 21, 3) := by decide +kernel
theorem dX8_turnAll_165 : decode cX8_turnAll 165 = .ok (.getfield 107, 3) := by decide +kernel
theorem dX8_turnAll_168 : decode cX8_turnAll 168 = .ok (.iload_n 3, 1) := by decide +kernel
theorem dX8_turnAll_169 : decode cX8_turnAll 169 = .ok (.iaload, 1) := by decide +kernel
theorem dX8_turnAll_170 : decode cX8_turnAll 170 = .ok (.ifCond .ne 30, 3) := by decide +kernel
theorem dX8_turnAll_173 : decode cX8_turnAll 173 = .ok (.aload_n 0, 1) := by decide +kernel
theorem dX8_turnAll_174 : decode cX8_turnAll 174 = .ok (.getfield 21, 3) := by decide +kernel
theorem dX8_turnAll_177 : decode cX8_turnAll 177 = .ok (.getfield 135, 3) := by decide +kernel
theorem dX8_turnAll_180 : decode cX8_turnAll 180 = .ok (.iload_n 3, 1) := by decide +kernel
theorem dX8_turnAll_181 : decode cX8_turnAll 181 = .ok (.iconst 1, 1) := by decide +kernel
theorem dX8_turnAll_182 : decode cX8_turnAll 182 = .ok (.bastore, 1) := by decide +kernel
theorem dX8_turnAll_183 : decode cX8_turnAll 183 = .ok (.aload_n 0, 1) := by decide +kernel
theorem dX8_turnAll_184 : decode cX8_turnAll 184 = .ok (.getfield 28, 3) := by decide +kernel
theorem dX8_turnAll_187 : decode cX8_turnAll 187 = .ok (.aload_n 0, 1) := by decide +kernel
theorem dX8_turnAll_188 : decode cX8_turnAll 188 = .ok (.getfield 46, 3) := by decide +kernel
theorem dX8_turnAll_191 : decode cX8_turnAll 191 = .ok (.iload_n 3, 1) := by decide +kernel
theorem dX8_turnAll_192 : decode cX8_turnAll 192 = .ok (.iconst 0, 1) := by decide +kernel
theorem dX8_turnAll_193 : decode cX8_turnAll 193 = .ok (.iconst 0, 1) := by decide +kernel
theorem dX8_turnAll_194 : decode cX8_turnAll 194 = .ok (.invokevirtual 139, 3) := by decide +kernel
theorem dX8_turnAll_197 : decode cX8_turnAll 197 = .ok (.iinc 2 1, 3) := by decide +kernel
theorem dX8_turnAll_200 : decode cX8_turnAll 200 = .ok (.iinc 3 1, 3) := by decide +kernel
theorem dX8_turnAll_203 : decode cX8_turnAll 203 = .ok (.goto (-199), 3) := by decide +kernel
theorem dX8_turnAll_206 : decode cX8_turnAll 206 = .ok (.iload_n 2, 1) := by decide +kernel
theorem dX8_turnAll_207 : decode cX8_turnAll 207 = .ok (.ireturn, 1) := by decide +kernel
theorem dX8_turnsBy_0 : decode cX8_turnsBy 0 = .ok (.aload_n 0, 1) := by decide +kernel
theorem dX8_turnsBy_1 : decode cX8_turnsBy 1 = .ok (.aload_n 1, 1) := by decide +kernel
theorem dX8_turnsBy_2 : decode cX8_turnsBy 2 = .ok (.iload_n 3, 1) := by decide +kernel
theorem dX8_turnsBy_3 : decode cX8_turnsBy 3 = .ok (.invokevirtual 103, 3) := by decide +kernel
theorem dX8_turnsBy_6 : decode cX8_turnsBy 6 = .ok (.aload_n 0, 1) := by decide +kernel
theorem dX8_turnsBy_7 : decode cX8_turnsBy 7 = .ok (.aload_n 1, 1) := by decide +kernel
theorem dX8_turnsBy_8 : decode cX8_turnsBy 8 = .ok (.iload_n 2, 1) := by decide +kernel
theorem dX8_turnsBy_9 : decode cX8_turnsBy 9 = .ok (.iload_n 3, 1) := by decide +kernel
theorem dX8_turnsBy_10 : decode cX8_turnsBy 10 = .ok (.invokevirtual 110, 3) := by decide +kernel
theorem dX8_turnsBy_13 : decode cX8_turnsBy 13 = .ok (.ireturn, 1) := by decide +kernel
theorem dX8_amountBy_0 : decode cX8_amountBy 0 = .ok (.iload_n 2, 1) := by decide +kernel
theorem dX8_amountBy_1 : decode cX8_amountBy 1 = .ok (.sipush 1024, 3) := by decide +kernel
theorem dX8_amountBy_4 : decode cX8_amountBy 4 = .ok (.if_icmp .ne 10, 3) := by decide +kernel
theorem dX8_amountBy_7 : decode cX8_amountBy 7 = .ok (.aload_n 0, 1) := by decide +kernel
theorem dX8_amountBy_8 : decode cX8_amountBy 8 = .ok (.invokevirtual 143, 3) := by decide +kernel
theorem dX8_amountBy_11 : decode cX8_amountBy 11 = .ok (.goto 4, 3) := by decide +kernel
theorem dX8_amountBy_14 : decode cX8_amountBy 14 = .ok (.iconst 0, 1) := by decide +kernel
theorem dX8_amountBy_15 : decode cX8_amountBy 15 = .ok (.istore 4, 2) := by decide +kernel
theorem dX8_amountBy_17 : decode cX8_amountBy 17 = .ok (.aload_n 1, 1) := by decide +kernel
theorem dX8_amountBy_18 : decode cX8_amountBy 18 = .ok (.getfield 147, 3) := by decide +kernel
theorem dX8_amountBy_21 : decode cX8_amountBy 21 = .ok (.iconst (-1), 1) := by decide +kernel
theorem dX8_amountBy_22 : decode cX8_amountBy 22 = .ok (.if_icmp .eq 12, 3) := by decide +kernel
theorem dX8_amountBy_25 : decode cX8_amountBy 25 = .ok (.iload 4, 2) := by decide +kernel
theorem dX8_amountBy_27 : decode cX8_amountBy 27 = .ok (.aload_n 1, 1) := by decide +kernel
theorem dX8_amountBy_28 : decode cX8_amountBy 28 = .ok (.iload_n 2, 1) := by decide +kernel
theorem dX8_amountBy_29 : decode cX8_amountBy 29 = .ok (.invokevirtual 150, 3) := by decide +kernel
theorem dX8_amountBy_32 : decode cX8_amountBy 32 = .ok (.iadd, 1) := by decide +kernel
theorem dX8_amountBy_33 : decode cX8_amountBy 33 = .ok (.ireturn, 1) := by decide +kernel
theorem dX8_amountBy_34 : decode cX8_amountBy 34 = .ok (.iload_n 2, 1) := by decide +kernel
theorem dX8_amountBy_35 : decode cX8_amountBy 35 = .ok (.sipush 1023, 3) := by decide +kernel
theorem dX8_amountBy_38 : decode cX8_amountBy 38 = .ok (.if_icmp .ne 13, 3) := by decide +kernel
theorem dX8_amountBy_41 : decode cX8_amountBy 41 = .ok (.iload_n 3, 1) := by decide +kernel
theorem dX8_amountBy_42 : decode cX8_amountBy 42 = .ok (.ifCond .lt 9, 3) := by decide +kernel
theorem dX8_amountBy_45 : decode cX8_amountBy 45 = .ok (.iload_n 3, 1) := by decide +kernel
theorem dX8_amountBy_46 : decode cX8_amountBy 46 = .ok (.bipush 10, 2) := by decide +kernel
theorem dX8_amountBy_48 : decode cX8_amountBy 48 = .ok (.if_icmp .lt 6, 3) := by decide +kernel
theorem dX8_amountBy_51 : decode cX8_amountBy 51 = .ok (.iload 4, 2) := by decide +kernel
theorem dX8_amountBy_53 : decode cX8_amountBy 53 = .ok (.ireturn, 1) := by decide +kernel
theorem dX8_amountBy_54 : decode cX8_amountBy 54 = .ok (.aload_n 0, 1) := by decide +kernel
theorem dX8_amountBy_55 : decode cX8_amountBy 55 = .ok (.getfield 32, 3) := by decide +kernel
theorem dX8_amountBy_58 : decode cX8_amountBy 58 = .ok (.aload_n 0, 1) := by decide +kernel
theorem dX8_amountBy_59 : decode cX8_amountBy 59 = .ok (.getfield 21, 3) := by decide +kernel
theorem dX8_amountBy_62 : decode cX8_amountBy 62 = .ok (.getfield 154, 3) := by decide +kernel
theorem dX8_amountBy_65 : decode cX8_amountBy 65 = .ok (.iload_n 3, 1) := by decide +kernel
theorem dX8_amountBy_66 : decode cX8_amountBy 66 = .ok (.iaload, 1) := by decide +kernel
theorem dX8_amountBy_67 : decode cX8_amountBy 67 = .ok (.invokestatic 76, 3) := by decide +kernel
theorem dX8_amountBy_70 : decode cX8_amountBy 70 = .ok (.aload_n 0, 1) := by decide +kernel
theorem dX8_amountBy_71 : decode cX8_amountBy 71 = .ok (.getfield 21, 3) := by decide +kernel
theorem dX8_amountBy_74 : decode cX8_amountBy 74 = .ok (.getfield 157, 3) := by decide +kernel
theorem dX8_amountBy_77 : decode cX8_amountBy 77 = .ok (.iload_n 3, 1) := by decide +kernel
theorem dX8_amountBy_78 : decode cX8_amountBy 78 = .ok (.baload, 1) := by decide +kernel
theorem dX8_amountBy_79 : decode cX8_amountBy 79 = .ok (.ifCond .eq 7, 3) := by decide +kernel
theorem dX8_amountBy_82 : decode cX8_amountBy 82 = .ok (.iconst 5, 1) := by decide +kernel
theorem dX8_amountBy_83 : decode cX8_amountBy 83 = .ok (.goto 4, 3) := by decide +kernel
theorem dX8_amountBy_86 : decode cX8_amountBy 86 = .ok (.iconst 0, 1) := by decide +kernel
theorem dX8_amountBy_87 : decode cX8_amountBy 87 = .ok (.iadd, 1) := by decide +kernel
theorem dX8_amountBy_88 : decode cX8_amountBy 88 = .ok (.ireturn, 1) := by decide +kernel
theorem dX8_tell_0 : decode cX8_tell 0 = .ok (.aload_n 1, 1) := by decide +kernel
theorem dX8_tell_1 : decode cX8_tell 1 = .ok (.getfield 147, 3) := by decide +kernel
theorem dX8_tell_4 : decode cX8_tell 4 = .ok (.iconst (-1), 1) := by decide +kernel
theorem dX8_tell_5 : decode cX8_tell 5 = .ok (.if_icmp .eq 13, 3) := by decide +kernel
theorem dX8_tell_8 : decode cX8_tell 8 = .ok (.iload_n 2, 1) := by decide +kernel
theorem dX8_tell_9 : decode cX8_tell 9 = .ok (.ifCond .lt 9, 3) := by decide +kernel
theorem dX8_tell_12 : decode cX8_tell 12 = .ok (.iload_n 2, 1) := by decide +kernel
theorem dX8_tell_13 : decode cX8_tell 13 = .ok (.bipush 10, 2) := by decide +kernel
theorem dX8_tell_15 : decode cX8_tell 15 = .ok (.if_icmp .lt 4, 3) := by decide +kernel
theorem dX8_tell_18 : decode cX8_tell 18 = .ok (.return_, 1) := by decide +kernel
theorem dX8_tell_19 : decode cX8_tell 19 = .ok (.aload_n 1, 1) := by decide +kernel
theorem dX8_tell_20 : decode cX8_tell 20 = .ok (.getfield 120, 3) := by decide +kernel
theorem dX8_tell_23 : decode cX8_tell 23 = .ok (.astore_n 3, 1) := by decide +kernel
theorem dX8_tell_24 : decode cX8_tell 24 = .ok (.aload_n 3, 1) := by decide +kernel
theorem dX8_tell_25 : decode cX8_tell 25 = .ok (.iconst 0, 1) := by decide +kernel
theorem dX8_tell_26 : decode cX8_tell 26 = .ok (.iload_n 2, 1) := by decide +kernel
theorem dX8_tell_27 : decode cX8_tell 27 = .ok (.invokestatic 125, 3) := by decide +kernel
theorem dX8_tell_30 : decode cX8_tell 30 = .ok (.aload_n 3, 1) := by decide +kernel
theorem dX8_tell_31 : decode cX8_tell 31 = .ok (.iconst 1, 1) := by decide +kernel
theorem dX8_tell_32 : decode cX8_tell 32 = .ok (.aload_n 0, 1) := by decide +kernel
theorem dX8_tell_33 : decode cX8_tell 33 = .ok (.getfield 21, 3) := by decide +kernel
theorem dX8_tell_36 : decode cX8_tell 36 = .ok (.getfield 132, 3) := by decide +kernel
theorem dX8_tell_39 : decode cX8_tell 39 = .ok (.iload_n 2, 1) := by decide +kernel
theorem dX8_tell_40 : decode cX8_tell 40 = .ok (.iaload, 1) := by decide +kernel
theorem dX8_tell_41 : decode cX8_tell 41 = .ok (.invokestatic 125, 3) := by decide +kernel
theorem dX8_tell_44 : decode cX8_tell 44 = .ok (.aload_n 3, 1) := by decide +kernel
theorem dX8_tell_45 : decode cX8_tell 45 = .ok (.iconst 2, 1) := by decide +kernel
theorem dX8_tell_46 : decode cX8_tell 46 = .ok (.aload_n 0, 1) := by decide +kernel
theorem dX8_tell_47 : decode cX8_tell 47 = .ok (.getfield 21, 3) := by decide +kernel
theorem dX8_tell_50 : decode cX8_tell 50 = .ok (.getfield 107, 3) := by decide +kernel
theorem dX8_tell_53 : decode cX8_tell 53 = .ok (.iload_n 2, 1) := by decide +kernel
theorem dX8_tell_54 : decode cX8_tell 54 = .ok (.iaload, 1) := by decide +kernel
theorem dX8_tell_55 : decode cX8_tell 55 = .ok (.invokestatic 125, 3) := by decide +kernel
theorem dX8_tell_58 : decode cX8_tell 58 = .ok (.aload_n 3, 1) := by decide +kernel
theorem dX8_tell_59 : decode cX8_tell 59 = .ok (.iconst 3, 1) := by decide +kernel
theorem dX8_tell_60 : decode cX8_tell 60 = .ok (.aload_n 0, 1) := by decide +kernel
theorem dX8_tell_61 : decode cX8_tell 61 = .ok (.getfield 12, 3) := by decide +kernel
theorem dX8_tell_64 : decode cX8_tell 64 = .ok (.getfield 160, 3) := by decide +kernel
theorem dX8_tell_67 : decode cX8_tell 67 = .ok (.aload_n 0, 1) := by decide +kernel
theorem dX8_tell_68 : decode cX8_tell 68 = .ok (.getfield 21, 3) := by decide +kernel
theorem dX8_tell_71 : decode cX8_tell 71 = .ok (.getfield 163, 3) := by decide +kernel
theorem dX8_tell_74 : decode cX8_tell 74 = .ok (.iload_n 2, 1) := by decide +kernel
theorem dX8_tell_75 : decode cX8_tell 75 = .ok (.iaload, 1) := by decide +kernel
theorem dX8_tell_76 : decode cX8_tell 76 = .ok (.invokestatic 76, 3) := by decide +kernel
theorem dX8_tell_79 : decode cX8_tell 79 = .ok (.invokestatic 125, 3) := by decide +kernel
theorem dX8_tell_82 : decode cX8_tell 82 = .ok (.aload_n 3, 1) := by decide +kernel
theorem dX8_tell_83 : decode cX8_tell 83 = .ok (.iconst 4, 1) := by decide +kernel
theorem dX8_tell_84 : decode cX8_tell 84 = .ok (.aload_n 0, 1) := by decide +kernel
theorem dX8_tell_85 : decode cX8_tell 85 = .ok (.getfield 32, 3) := by decide +kernel
theorem dX8_tell_88 : decode cX8_tell 88 = .ok (.aload_n 0, 1) := by decide +kernel
theorem dX8_tell_89 : decode cX8_tell 89 = .ok (.getfield 21, 3) := by decide +kernel
theorem dX8_tell_92 : decode cX8_tell 92 = .ok (.getfield 154, 3) := by decide +kernel
theorem dX8_tell_95 : decode cX8_tell 95 = .ok (.iload_n 2, 1) := by decide +kernel
theorem dX8_tell_96 : decode cX8_tell 96 = .ok (.iaload, 1) := by decide +kernel
theorem dX8_tell_97 : decode cX8_tell 97 = .ok (.invokestatic 76, 3) := by decide +kernel
theorem dX8_tell_100 : decode cX8_tell 100 = .ok (.invokestatic 125, 3) := by decide +kernel
theorem dX8_tell_103 : decode cX8_tell 103 = .ok (.aload_n 3, 1) := by decide +kernel
theorem dX8_tell_104 : decode cX8_tell 104 = .ok (.iconst 5, 1) := by decide +kernel
theorem dX8_tell_105 : decode cX8_tell 105 = .ok (.aload_n 0, 1) := by decide +kernel
theorem dX8_tell_106 : decode cX8_tell 106 = .ok (.getfield 36, 3) := by decide +kernel
theorem dX8_tell_109 : decode cX8_tell 109 = .ok (.aload_n 0, 1) := by decide +kernel
theorem dX8_tell_110 : decode cX8_tell 110 = .ok (.getfield 21, 3) := by decide +kernel
theorem dX8_tell_113 : decode cX8_tell 113 = .ok (.getfield 154, 3) := by decide +kernel
theorem dX8_tell_116 : decode cX8_tell 116 = .ok (.iload_n 2, 1) := by decide +kernel
theorem dX8_tell_117 : decode cX8_tell 117 = .ok (.iaload, 1) := by decide +kernel
theorem dX8_tell_118 : decode cX8_tell 118 = .ok (.invokestatic 76, 3) := by decide +kernel
theorem dX8_tell_121 : decode cX8_tell 121 = .ok (.invokestatic 125, 3) := by decide +kernel
theorem dX8_tell_124 : decode cX8_tell 124 = .ok (.aload_n 3, 1) := by decide +kernel
theorem dX8_tell_125 : decode cX8_tell 125 = .ok (.bipush 6, 2) := by decide +kernel
theorem dX8_tell_127 : decode cX8_tell 127 = .ok (.aload_n 0, 1) := by decide +kernel
theorem dX8_tell_128 : decode cX8_tell 128 = .ok (.invokevirtual 143, 3) := by decide +kernel
theorem dX8_tell_131 : decode cX8_tell 131 = .ok (.invokestatic 125, 3) := by decide +kernel
theorem dX8_tell_134 : decode cX8_tell 134 = .ok (.aload_n 3, 1) := by decide +kernel
theorem dX8_tell_135 : decode cX8_tell 135 = .ok (.bipush 7, 2) := by decide +kernel
theorem dX8_tell_137 : decode cX8_tell 137 = .ok (.aload_n 0, 1) := by decide +kernel
theorem dX8_tell_138 : decode cX8_tell 138 = .ok (.getfield 46, 3) := by decide +kernel
theorem dX8_tell_141 : decode cX8_tell 141 = .ok (.iconst 4, 1) := by decide +kernel
theorem dX8_tell_142 : decode cX8_tell 142 = .ok (.irem, 1) := by decide +kernel
theorem dX8_tell_143 : decode cX8_tell 143 = .ok (.invokestatic 125, 3) := by decide +kernel
theorem dX8_tell_146 : decode cX8_tell 146 = .ok (.aload_n 3, 1) := by decide +kernel
theorem dX8_tell_147 : decode cX8_tell 147 = .ok (.bipush 8, 2) := by decide +kernel
theorem dX8_tell_149 : decode cX8_tell 149 = .ok (.aload_n 0, 1) := by decide +kernel
theorem dX8_tell_150 : decode cX8_tell 150 = .ok (.getfield 21, 3) := by decide +kernel
theorem dX8_tell_153 : decode cX8_tell 153 = .ok (.getfield 157, 3) := by decide +kernel
theorem dX8_tell_156 : decode cX8_tell 156 = .ok (.iload_n 2, 1) := by decide +kernel
theorem dX8_tell_157 : decode cX8_tell 157 = .ok (.baload, 1) := by decide +kernel
theorem dX8_tell_158 : decode cX8_tell 158 = .ok (.ifCond .eq 7, 3) := by decide +kernel
theorem dX8_tell_161 : decode cX8_tell 161 = .ok (.iconst 1, 1) := by decide +kernel
theorem dX8_tell_162 : decode cX8_tell 162 = .ok (.goto 4, 3) := by decide +kernel
theorem dX8_tell_165 : decode cX8_tell 165 = .ok (.iconst 0, 1) := by decide +kernel
theorem dX8_tell_166 : decode cX8_tell 166 = .ok (.invokestatic 125, 3) := by decide +kernel
theorem dX8_tell_169 : decode cX8_tell 169 = .ok (.aload_n 3, 1) := by decide +kernel
theorem dX8_tell_170 : decode cX8_tell 170 = .ok (.bipush 9, 2) := by decide +kernel
theorem dX8_tell_172 : decode cX8_tell 172 = .ok (.aload_n 0, 1) := by decide +kernel
theorem dX8_tell_173 : decode cX8_tell 173 = .ok (.getfield 21, 3) := by decide +kernel
theorem dX8_tell_176 : decode cX8_tell 176 = .ok (.aload_n 0, 1) := by decide +kernel
theorem dX8_tell_177 : decode cX8_tell 177 = .ok (.getfield 21, 3) := by decide +kernel
theorem dX8_tell_180 : decode cX8_tell 180 = .ok (.getfield 166, 3) := by decide +kernel
theorem dX8_tell_183 : decode cX8_tell 183 = .ok (.iload_n 2, 1) := by decide +kernel
theorem dX8_tell_184 : decode cX8_tell 184 = .ok (.iaload, 1) := by decide +kernel
theorem dX8_tell_185 : decode cX8_tell 185 = .ok (.aload_n 0, 1) := by decide +kernel
theorem dX8_tell_186 : decode cX8_tell 186 = .ok (.getfield 21, 3) := by decide +kernel
theorem dX8_tell_189 : decode cX8_tell 189 = .ok (.getfield 163, 3) := by decide +kernel
theorem dX8_tell_192 : decode cX8_tell 192 = .ok (.iload_n 2, 1) := by decide +kernel
theorem dX8_tell_193 : decode cX8_tell 193 = .ok (.iaload, 1) := by decide +kernel
theorem dX8_tell_194 : decode cX8_tell 194 = .ok (.invokevirtual 169, 3) := by decide +kernel
theorem dX8_tell_197 : decode cX8_tell 197 = .ok (.iconst (-1), 1) := by decide +kernel
theorem dX8_tell_198 : decode cX8_tell 198 = .ok (.if_icmp .eq 7, 3) := by decide +kernel
theorem dX8_tell_201 : decode cX8_tell 201 = .ok (.iconst 1, 1) := by decide +kernel
theorem dX8_tell_202 : decode cX8_tell 202 = .ok (.goto 4, 3) := by decide +kernel
theorem dX8_tell_205 : decode cX8_tell 205 = .ok (.iconst 0, 1) := by decide +kernel
theorem dX8_tell_206 : decode cX8_tell 206 = .ok (.invokestatic 125, 3) := by decide +kernel
theorem dX8_tell_209 : decode cX8_tell 209 = .ok (.aload_n 3, 1) := by decide +kernel
theorem dX8_tell_210 : decode cX8_tell 210 = .ok (.bipush 10, 2) := by decide +kernel
theorem dX8_tell_212 : decode cX8_tell 212 = .ok (.aload_n 0, 1) := by decide +kernel
theorem dX8_tell_213 : decode cX8_tell 213 = .ok (.getfield 52, 3) := by decide +kernel
theorem dX8_tell_216 : decode cX8_tell 216 = .ok (.ifCond .eq 7, 3) := by decide +kernel
theorem dX8_tell_219 : decode cX8_tell 219 = .ok (.iconst 1, 1) := by decide +kernel
theorem dX8_tell_220 : decode cX8_tell 220 = .ok (.goto 4, 3) := by decide +kernel
theorem dX8_tell_223 : decode cX8_tell 223 = .ok (.iconst 0, 1) := by decide +kernel
theorem dX8_tell_224 : decode cX8_tell 224 = .ok (.invokestatic 125, 3) := by decide +kernel
theorem dX8_tell_227 : decode cX8_tell 227 = .ok (.return_, 1) := by decide +kernel
theorem dX8_leak_0 : decode cX8_leak 0 = .ok (.aload_n 0, 1) := by decide +kernel
theorem dX8_leak_1 : decode cX8_leak 1 = .ok (.iconst 0, 1) := by decide +kernel
theorem dX8_leak_2 : decode cX8_leak 2 = .ok (.aload_n 0, 1) := by decide +kernel
theorem dX8_leak_3 : decode cX8_leak 3 = .ok (.getfield 49, 3) := by decide +kernel
theorem dX8_leak_6 : decode cX8_leak 6 = .ok (.aload_n 0, 1) := by decide +kernel
theorem dX8_leak_7 : decode cX8_leak 7 = .ok (.invokevirtual 143, 3) := by decide +kernel
theorem dX8_leak_10 : decode cX8_leak 10 = .ok (.aload_n 0, 1) := by decide +kernel
theorem dX8_leak_11 : decode cX8_leak 11 = .ok (.getfield 52, 3) := by decide +kernel
theorem dX8_leak_14 : decode cX8_leak 14 = .ok (.ifCond .eq 7, 3) := by decide +kernel
theorem dX8_leak_17 : decode cX8_leak 17 = .ok (.iconst 5, 1) := by decide +kernel
theorem dX8_leak_18 : decode cX8_leak 18 = .ok (.goto 4, 3) := by decide +kernel
theorem dX8_leak_21 : decode cX8_leak 21 = .ok (.iconst 1, 1) := by decide +kernel
theorem dX8_leak_22 : decode cX8_leak 22 = .ok (.imul, 1) := by decide +kernel
theorem dX8_leak_23 : decode cX8_leak 23 = .ok (.isub, 1) := by decide +kernel
theorem dX8_leak_24 : decode cX8_leak 24 = .ok (.invokestatic 129, 3) := by decide +kernel
theorem dX8_leak_27 : decode cX8_leak 27 = .ok (.putfield 49, 3) := by decide +kernel
theorem dX8_leak_30 : decode cX8_leak 30 = .ok (.return_, 1) := by decide +kernel
theorem dX8_kissByDraw_0 : decode cX8_kissByDraw 0 = .ok (.aload_n 0, 1) := by decide +kernel
theorem dX8_kissByDraw_1 : decode cX8_kissByDraw 1 = .ok (.invokevirtual 172, 3) := by decide +kernel
theorem dX8_kissByDraw_4 : decode cX8_kissByDraw 4 = .ok (.bipush 100, 2) := by decide +kernel
theorem dX8_kissByDraw_6 : decode cX8_kissByDraw 6 = .ok (.irem, 1) := by decide +kernel
theorem dX8_kissByDraw_7 : decode cX8_kissByDraw 7 = .ok (.aload_n 0, 1) := by decide +kernel
theorem dX8_kissByDraw_8 : decode cX8_kissByDraw 8 = .ok (.getfield 56, 3) := by decide +kernel
theorem dX8_kissByDraw_11 : decode cX8_kissByDraw 11 = .ok (.if_icmp .lt 4, 3) := by decide +kernel
theorem dX8_kissByDraw_14 : decode cX8_kissByDraw 14 = .ok (.return_, 1) := by decide +kernel
theorem dX8_kissByDraw_15 : decode cX8_kissByDraw 15 = .ok (.aload_n 0, 1) := by decide +kernel
theorem dX8_kissByDraw_16 : decode cX8_kissByDraw 16 = .ok (.getfield 21, 3) := by decide +kernel
theorem dX8_kissByDraw_19 : decode cX8_kissByDraw 19 = .ok (.invokevirtual 175, 3) := by decide +kernel
theorem dX8_kissByDraw_22 : decode cX8_kissByDraw 22 = .ok (.invokestatic 178, 3) := by decide +kernel
theorem dX8_kissByDraw_25 : decode cX8_kissByDraw 25 = .ok (.istore_n 1, 1) := by decide +kernel
theorem dX8_kissByDraw_26 : decode cX8_kissByDraw 26 = .ok (.iload_n 1, 1) := by decide +kernel
theorem dX8_kissByDraw_27 : decode cX8_kissByDraw 27 = .ok (.ifCond .ne 4, 3) := by decide +kernel
theorem dX8_kissByDraw_30 : decode cX8_kissByDraw 30 = .ok (.return_, 1) := by decide +kernel
theorem dX8_kissByDraw_31 : decode cX8_kissByDraw 31 = .ok (.aload_n 0, 1) := by decide +kernel
theorem dX8_kissByDraw_32 : decode cX8_kissByDraw 32 = .ok (.invokevirtual 172, 3) := by decide +kernel
theorem dX8_kissByDraw_35 : decode cX8_kissByDraw 35 = .ok (.iload_n 1, 1) := by decide +kernel
theorem dX8_kissByDraw_36 : decode cX8_kissByDraw 36 = .ok (.irem, 1) := by decide +kernel
theorem dX8_kissByDraw_37 : decode cX8_kissByDraw 37 = .ok (.istore_n 2, 1) := by decide +kernel
theorem dX8_kissByDraw_38 : decode cX8_kissByDraw 38 = .ok (.iconst 0, 1) := by decide +kernel
theorem dX8_kissByDraw_39 : decode cX8_kissByDraw 39 = .ok (.istore_n 3, 1) := by decide +kernel
theorem dX8_kissByDraw_40 : decode cX8_kissByDraw 40 = .ok (.iload_n 3, 1) := by decide +kernel
theorem dX8_kissByDraw_41 : decode cX8_kissByDraw 41 = .ok (.aload_n 0, 1) := by decide +kernel
theorem dX8_kissByDraw_42 : decode cX8_kissByDraw 42 = .ok (.getfield 21, 3) := by decide +kernel
theorem dX8_kissByDraw_45 : decode cX8_kissByDraw 45 = .ok (.getfield 96, 3) := by decide +kernel
theorem dX8_kissByDraw_48 : decode cX8_kissByDraw 48 = .ok (.if_icmp .ge 49, 3) := by decide +kernel
theorem dX8_kissByDraw_51 : decode cX8_kissByDraw 51 = .ok (.aload_n 0, 1) := by decide +kernel
theorem dX8_kissByDraw_52 : decode cX8_kissByDraw 52 = .ok (.getfield 21, 3) := by decide +kernel
theorem dX8_kissByDraw_55 : decode cX8_kissByDraw 55 = .ok (.iload_n 3, 1) := by decide +kernel
theorem dX8_kissByDraw_56 : decode cX8_kissByDraw 56 = .ok (.invokevirtual 99, 3) := by decide +kernel
theorem dX8_kissByDraw_59 : decode cX8_kissByDraw 59 = .ok (.ifCond .eq 32, 3) := by decide +kernel
theorem dX8_kissByDraw_62 : decode cX8_kissByDraw 62 = .ok (.iload_n 2, 1) := by decide +kernel
theorem dX8_kissByDraw_63 : decode cX8_kissByDraw 63 = .ok (.ifCond .ne 25, 3) := by decide +kernel
theorem dX8_kissByDraw_66 : decode cX8_kissByDraw 66 = .ok (.aload_n 0, 1) := by decide +kernel
theorem dX8_kissByDraw_67 : decode cX8_kissByDraw 67 = .ok (.iload_n 3, 1) := by decide +kernel
theorem dX8_kissByDraw_68 : decode cX8_kissByDraw 68 = .ok (.iconst 4, 1) := by decide +kernel
theorem dX8_kissByDraw_69 : decode cX8_kissByDraw 69 = .ok (.aload_n 0, 1) := by decide +kernel
theorem dX8_kissByDraw_70 : decode cX8_kissByDraw 70 = .ok (.getfield 21, 3) := by decide +kernel
theorem dX8_kissByDraw_73 : decode cX8_kissByDraw 73 = .ok (.getfield 107, 3) := by decide +kernel
theorem dX8_kissByDraw_76 : decode cX8_kissByDraw 76 = .ok (.iload_n 3, 1) := by decide +kernel
theorem dX8_kissByDraw_77 : decode cX8_kissByDraw 77 = .ok (.invokestatic 76, 3) := by decide +kernel
theorem dX8_kissByDraw_80 : decode cX8_kissByDraw 80 = .ok (.iconst 1, 1) := by decide +kernel
theorem dX8_kissByDraw_81 : decode cX8_kissByDraw 81 = .ok (.iadd, 1) := by decide +kernel
theorem dX8_kissByDraw_82 : decode cX8_kissByDraw 82 = .ok (.iconst 2, 1) := by decide +kernel
theorem dX8_kissByDraw_83 : decode cX8_kissByDraw 83 = .ok (.idiv, 1) := by decide +kernel
theorem dX8_kissByDraw_84 : decode cX8_kissByDraw 84 = .ok (.invokevirtual 183, 3) := by decide +kernel
theorem dX8_kissByDraw_87 : decode cX8_kissByDraw 87 = .ok (.return_, 1) := by decide +kernel
theorem dX8_kissByDraw_88 : decode cX8_kissByDraw 88 = .ok (.iinc 2 (-1), 3) := by decide +kernel
theorem dX8_kissByDraw_91 : decode cX8_kissByDraw 91 = .ok (.iinc 3 1, 3) := by decide +kernel
theorem dX8_kissByDraw_94 : decode cX8_kissByDraw 94 = .ok (.goto (-54), 3) := by decide +kernel
theorem dX8_kissByDraw_97 : decode cX8_kissByDraw 97 = .ok (.return_, 1) := by decide +kernel
theorem dX8_draw_0 : decode cX8_draw 0 = .ok (.aload_n 0, 1) := by decide +kernel
theorem dX8_draw_1 : decode cX8_draw 1 = .ok (.ldc 187, 2) := by decide +kernel
theorem dX8_draw_3 : decode cX8_draw 3 = .ok (.aload_n 0, 1) := by decide +kernel
theorem dX8_draw_4 : decode cX8_draw 4 = .ok (.getfield 59, 3) := by decide +kernel
theorem dX8_draw_7 : decode cX8_draw 7 = .ok (.imul, 1) := by decide +kernel
theorem dX8_draw_8 : decode cX8_draw 8 = .ok (.sipush 12345, 3) := by decide +kernel
theorem dX8_draw_11 : decode cX8_draw 11 = .ok (.iadd, 1) := by decide +kernel
theorem dX8_draw_12 : decode cX8_draw 12 = .ok (.putfield 59, 3) := by decide +kernel
theorem dX8_draw_15 : decode cX8_draw 15 = .ok (.aload_n 0, 1) := by decide +kernel
theorem dX8_draw_16 : decode cX8_draw 16 = .ok (.getfield 59, 3) := by decide +kernel
theorem dX8_draw_19 : decode cX8_draw 19 = .ok (.bipush 16, 2) := by decide +kernel
theorem dX8_draw_21 : decode cX8_draw 21 = .ok (.iushr, 1) := by decide +kernel
theorem dX8_draw_22 : decode cX8_draw 22 = .ok (.sipush 32767, 3) := by decide +kernel
theorem dX8_draw_25 : decode cX8_draw 25 = .ok (.iand, 1) := by decide +kernel
theorem dX8_draw_26 : decode cX8_draw 26 = .ok (.ireturn, 1) := by decide +kernel
theorem dX8_tick_0 : decode cX8_tick 0 = .ok (.aload_n 0, 1) := by decide +kernel
theorem dX8_tick_1 : decode cX8_tick 1 = .ok (.sipush 9999, 3) := by decide +kernel
theorem dX8_tick_4 : decode cX8_tick 4 = .ok (.aload_n 0, 1) := by decide +kernel
theorem dX8_tick_5 : decode cX8_tick 5 = .ok (.getfield 46, 3) := by decide +kernel
theorem dX8_tick_8 : decode cX8_tick 8 = .ok (.iconst 1, 1) := by decide +kernel
theorem dX8_tick_9 : decode cX8_tick 9 = .ok (.iadd, 1) := by decide +kernel
theorem dX8_tick_10 : decode cX8_tick 10 = .ok (.invokestatic 114, 3) := by decide +kernel
theorem dX8_tick_13 : decode cX8_tick 13 = .ok (.putfield 46, 3) := by decide +kernel
theorem dX8_tick_16 : decode cX8_tick 16 = .ok (.return_, 1) := by decide +kernel
theorem dX8_lose_0 : decode cX8_lose 0 = .ok (.aload_n 0, 1) := by decide +kernel
theorem dX8_lose_1 : decode cX8_lose 1 = .ok (.getfield 21, 3) := by decide +kernel
theorem dX8_lose_4 : decode cX8_lose 4 = .ok (.getfield 107, 3) := by decide +kernel
theorem dX8_lose_7 : decode cX8_lose 7 = .ok (.iload_n 1, 1) := by decide +kernel
theorem dX8_lose_8 : decode cX8_lose 8 = .ok (.aload_n 0, 1) := by decide +kernel
theorem dX8_lose_9 : decode cX8_lose 9 = .ok (.getfield 21, 3) := by decide +kernel
theorem dX8_lose_12 : decode cX8_lose 12 = .ok (.getfield 107, 3) := by decide +kernel
theorem dX8_lose_15 : decode cX8_lose 15 = .ok (.iload_n 1, 1) := by decide +kernel
theorem dX8_lose_16 : decode cX8_lose 16 = .ok (.invokestatic 76, 3) := by decide +kernel
theorem dX8_lose_19 : decode cX8_lose 19 = .ok (.iload_n 3, 1) := by decide +kernel
theorem dX8_lose_20 : decode cX8_lose 20 = .ok (.isub, 1) := by decide +kernel
theorem dX8_lose_21 : decode cX8_lose 21 = .ok (.invokestatic 125, 3) := by decide +kernel
theorem dX8_lose_24 : decode cX8_lose 24 = .ok (.aload_n 0, 1) := by decide +kernel
theorem dX8_lose_25 : decode cX8_lose 25 = .ok (.getfield 28, 3) := by decide +kernel
theorem dX8_lose_28 : decode cX8_lose 28 = .ok (.aload_n 0, 1) := by decide +kernel
theorem dX8_lose_29 : decode cX8_lose 29 = .ok (.getfield 46, 3) := by decide +kernel
theorem dX8_lose_32 : decode cX8_lose 32 = .ok (.iload_n 1, 1) := by decide +kernel
theorem dX8_lose_33 : decode cX8_lose 33 = .ok (.iload_n 2, 1) := by decide +kernel
theorem dX8_lose_34 : decode cX8_lose 34 = .ok (.iload_n 3, 1) := by decide +kernel
theorem dX8_lose_35 : decode cX8_lose 35 = .ok (.invokevirtual 139, 3) := by decide +kernel
theorem dX8_lose_38 : decode cX8_lose 38 = .ok (.return_, 1) := by decide +kernel
theorem dX8_price_0 : decode cX8_price 0 = .ok (.aload_n 0, 1) := by decide +kernel
theorem dX8_price_1 : decode cX8_price 1 = .ok (.getfield 21, 3) := by decide +kernel
theorem dX8_price_4 : decode cX8_price 4 = .ok (.iload_n 1, 1) := by decide +kernel
theorem dX8_price_5 : decode cX8_price 5 = .ok (.invokevirtual 188, 3) := by decide +kernel
theorem dX8_price_8 : decode cX8_price 8 = .ok (.bipush 10, 2) := by decide +kernel
theorem dX8_price_10 : decode cX8_price 10 = .ok (.idiv, 1) := by decide +kernel
theorem dX8_price_11 : decode cX8_price 11 = .ok (.aload_n 0, 1) := by decide +kernel
theorem dX8_price_12 : decode cX8_price 12 = .ok (.getfield 12, 3) := by decide +kernel
theorem dX8_price_15 : decode cX8_price 15 = .ok (.getfield 160, 3) := by decide +kernel
theorem dX8_price_18 : decode cX8_price 18 = .ok (.iload_n 1, 1) := by decide +kernel
theorem dX8_price_19 : decode cX8_price 19 = .ok (.invokestatic 76, 3) := by decide +kernel
theorem dX8_price_22 : decode cX8_price 22 = .ok (.iadd, 1) := by decide +kernel
theorem dX8_price_23 : decode cX8_price 23 = .ok (.istore_n 2, 1) := by decide +kernel
theorem dX8_price_24 : decode cX8_price 24 = .ok (.iconst 0, 1) := by decide +kernel
theorem dX8_price_25 : decode cX8_price 25 = .ok (.iload_n 2, 1) := by decide +kernel
theorem dX8_price_26 : decode cX8_price 26 = .ok (.aload_n 0, 1) := by decide +kernel
theorem dX8_price_27 : decode cX8_price 27 = .ok (.getfield 12, 3) := by decide +kernel
theorem dX8_price_30 : decode cX8_price 30 = .ok (.getfield 191, 3) := by decide +kernel
theorem dX8_price_33 : decode cX8_price 33 = .ok (.iload_n 1, 1) := by decide +kernel
theorem dX8_price_34 : decode cX8_price 34 = .ok (.invokestatic 76, 3) := by decide +kernel
theorem dX8_price_37 : decode cX8_price 37 = .ok (.isub, 1) := by decide +kernel
theorem dX8_price_38 : decode cX8_price 38 = .ok (.invokestatic 129, 3) := by decide +kernel
theorem dX8_price_41 : decode cX8_price 41 = .ok (.ireturn, 1) := by decide +kernel
theorem dX8_missed_0 : decode cX8_missed 0 = .ok (.iload_n 1, 1) := by decide +kernel
theorem dX8_missed_1 : decode cX8_missed 1 = .ok (.iconst 1, 1) := by decide +kernel
theorem dX8_missed_2 : decode cX8_missed 2 = .ok (.aload_n 0, 1) := by decide +kernel
theorem dX8_missed_3 : decode cX8_missed 3 = .ok (.getfield 12, 3) := by decide +kernel
theorem dX8_missed_6 : decode cX8_missed 6 = .ok (.getfield 194, 3) := by decide +kernel
theorem dX8_missed_9 : decode cX8_missed 9 = .ok (.ishl, 1) := by decide +kernel
theorem dX8_missed_10 : decode cX8_missed 10 = .ok (.iconst 1, 1) := by decide +kernel
theorem dX8_missed_11 : decode cX8_missed 11 = .ok (.isub, 1) := by decide +kernel
theorem dX8_missed_12 : decode cX8_missed 12 = .ok (.iand, 1) := by decide +kernel
theorem dX8_missed_13 : decode cX8_missed 13 = .ok (.istore_n 2, 1) := by decide +kernel
theorem dX8_missed_14 : decode cX8_missed 14 = .ok (.iconst 0, 1) := by decide +kernel
theorem dX8_missed_15 : decode cX8_missed 15 = .ok (.aload_n 0, 1) := by decide +kernel
theorem dX8_missed_16 : decode cX8_missed 16 = .ok (.getfield 12, 3) := by decide +kernel
theorem dX8_missed_19 : decode cX8_missed 19 = .ok (.iload_n 2, 1) := by decide +kernel
theorem dX8_missed_20 : decode cX8_missed 20 = .ok (.invokevirtual 195, 3) := by decide +kernel
theorem dX8_missed_23 : decode cX8_missed 23 = .ok (.aload_n 0, 1) := by decide +kernel
theorem dX8_missed_24 : decode cX8_missed 24 = .ok (.getfield 21, 3) := by decide +kernel
theorem dX8_missed_27 : decode cX8_missed 27 = .ok (.iload_n 2, 1) := by decide +kernel
theorem dX8_missed_28 : decode cX8_missed 28 = .ok (.invokevirtual 198, 3) := by decide +kernel
theorem dX8_missed_31 : decode cX8_missed 31 = .ok (.isub, 1) := by decide +kernel
theorem dX8_missed_32 : decode cX8_missed 32 = .ok (.invokestatic 129, 3) := by decide +kernel
theorem dX8_missed_35 : decode cX8_missed 35 = .ok (.ireturn, 1) := by decide +kernel
theorem dX8_fitting_0 : decode cX8_fitting 0 = .ok (.iconst 0, 1) := by decide +kernel
theorem dX8_fitting_1 : decode cX8_fitting 1 = .ok (.istore_n 3, 1) := by decide +kernel
theorem dX8_fitting_2 : decode cX8_fitting 2 = .ok (.iconst 0, 1) := by decide +kernel
theorem dX8_fitting_3 : decode cX8_fitting 3 = .ok (.istore 4, 2) := by decide +kernel
theorem dX8_fitting_5 : decode cX8_fitting 5 = .ok (.iload 4, 2) := by decide +kernel
theorem dX8_fitting_7 : decode cX8_fitting 7 = .ok (.bipush 8, 2) := by decide +kernel
theorem dX8_fitting_9 : decode cX8_fitting 9 = .ok (.if_icmp .ge 86, 3) := by decide +kernel
theorem dX8_fitting_12 : decode cX8_fitting 12 = .ok (.iconst 0, 1) := by decide +kernel
theorem dX8_fitting_13 : decode cX8_fitting 13 = .ok (.istore 5, 2) := by decide +kernel
theorem dX8_fitting_15 : decode cX8_fitting 15 = .ok (.iconst 0, 1) := by decide +kernel
theorem dX8_fitting_16 : decode cX8_fitting 16 = .ok (.istore 6, 2) := by decide +kernel
theorem dX8_fitting_18 : decode cX8_fitting 18 = .ok (.iload 6, 2) := by decide +kernel
theorem dX8_fitting_20 : decode cX8_fitting 20 = .ok (.iconst 1, 1) := by decide +kernel
theorem dX8_fitting_21 : decode cX8_fitting 21 = .ok (.iadd, 1) := by decide +kernel
theorem dX8_fitting_22 : decode cX8_fitting 22 = .ok (.iload_n 2, 1) := by decide +kernel
theorem dX8_fitting_23 : decode cX8_fitting 23 = .ok (.if_icmp .ge 53, 3) := by decide +kernel
theorem dX8_fitting_26 : decode cX8_fitting 26 = .ok (.aload_n 1, 1) := by decide +kernel
theorem dX8_fitting_27 : decode cX8_fitting 27 = .ok (.iload 6, 2) := by decide +kernel
theorem dX8_fitting_29 : decode cX8_fitting 29 = .ok (.invokevirtual 201, 3) := by decide +kernel
theorem dX8_fitting_32 : decode cX8_fitting 32 = .ok (.ifCond .ne 13, 3) := by decide +kernel
theorem dX8_fitting_35 : decode cX8_fitting 35 = .ok (.aload_n 0, 1) := by decide +kernel
theorem dX8_fitting_36 : decode cX8_fitting 36 = .ok (.getfield 32, 3) := by decide +kernel
theorem dX8_fitting_39 : decode cX8_fitting 39 = .ok (.iload 4, 2) := by decide +kernel
theorem dX8_fitting_41 : decode cX8_fitting 41 = .ok (.iaload, 1) := by decide +kernel
theorem dX8_fitting_42 : decode cX8_fitting 42 = .ok (.goto 10, 3) := by decide +kernel
theorem dX8_fitting_45 : decode cX8_fitting 45 = .ok (.aload_n 0, 1) := by decide +kernel
theorem dX8_fitting_46 : decode cX8_fitting 46 = .ok (.getfield 36, 3) := by decide +kernel
theorem dX8_fitting_49 : decode cX8_fitting 49 = .ok (.iload 4, 2) := by decide +kernel
theorem dX8_fitting_51 : decode cX8_fitting 51 = .ok (.iaload, 1) := by decide +kernel
theorem dX8_fitting_52 : decode cX8_fitting 52 = .ok (.istore 7, 2) := by decide +kernel
theorem dX8_fitting_54 : decode cX8_fitting 54 = .ok (.aload_n 1, 1) := by decide +kernel
theorem dX8_fitting_55 : decode cX8_fitting 55 = .ok (.iload 6, 2) := by decide +kernel
theorem dX8_fitting_57 : decode cX8_fitting 57 = .ok (.iconst 1, 1) := by decide +kernel
theorem dX8_fitting_58 : decode cX8_fitting 58 = .ok (.iadd, 1) := by decide +kernel
theorem dX8_fitting_59 : decode cX8_fitting 59 = .ok (.invokevirtual 201, 3) := by decide +kernel
theorem dX8_fitting_62 : decode cX8_fitting 62 = .ok (.iload 7, 2) := by decide +kernel
theorem dX8_fitting_64 : decode cX8_fitting 64 = .ok (.if_icmp .eq 6, 3) := by decide +kernel
theorem dX8_fitting_67 : decode cX8_fitting 67 = .ok (.iinc 5 1, 3) := by decide +kernel
theorem dX8_fitting_70 : decode cX8_fitting 70 = .ok (.iinc 6 2, 3) := by decide +kernel
theorem dX8_fitting_73 : decode cX8_fitting 73 = .ok (.goto (-55), 3) := by decide +kernel
theorem dX8_fitting_76 : decode cX8_fitting 76 = .ok (.iload 5, 2) := by decide +kernel
theorem dX8_fitting_78 : decode cX8_fitting 78 = .ok (.iconst 1, 1) := by decide +kernel
theorem dX8_fitting_79 : decode cX8_fitting 79 = .ok (.if_icmp .gt 10, 3) := by decide +kernel
theorem dX8_fitting_82 : decode cX8_fitting 82 = .ok (.iload_n 3, 1) := by decide +kernel
theorem dX8_fitting_83 : decode cX8_fitting 83 = .ok (.iconst 1, 1) := by decide +kernel
theorem dX8_fitting_84 : decode cX8_fitting 84 = .ok (.iload 4, 2) := by decide +kernel
theorem dX8_fitting_86 : decode cX8_fitting 86 = .ok (.ishl, 1) := by decide +kernel
theorem dX8_fitting_87 : decode cX8_fitting 87 = .ok (.ior, 1) := by decide +kernel
theorem dX8_fitting_88 : decode cX8_fitting 88 = .ok (.istore_n 3, 1) := by decide +kernel
theorem dX8_fitting_89 : decode cX8_fitting 89 = .ok (.iinc 4 1, 3) := by decide +kernel
theorem dX8_fitting_92 : decode cX8_fitting 92 = .ok (.goto (-87), 3) := by decide +kernel
theorem dX8_fitting_95 : decode cX8_fitting 95 = .ok (.iload_n 3, 1) := by decide +kernel
theorem dX8_fitting_96 : decode cX8_fitting 96 = .ok (.ireturn, 1) := by decide +kernel
theorem dX8_likeliest_0 : decode cX8_likeliest 0 = .ok (.iconst (-1), 1) := by decide +kernel
theorem dX8_likeliest_1 : decode cX8_likeliest 1 = .ok (.istore_n 2, 1) := by decide +kernel
theorem dX8_likeliest_2 : decode cX8_likeliest 2 = .ok (.iconst (-1), 1) := by decide +kernel
theorem dX8_likeliest_3 : decode cX8_likeliest 3 = .ok (.istore_n 3, 1) := by decide +kernel
theorem dX8_likeliest_4 : decode cX8_likeliest 4 = .ok (.iconst 0, 1) := by decide +kernel
theorem dX8_likeliest_5 : decode cX8_likeliest 5 = .ok (.istore 4, 2) := by decide +kernel
theorem dX8_likeliest_7 : decode cX8_likeliest 7 = .ok (.iload 4, 2) := by decide +kernel
theorem dX8_likeliest_9 : decode cX8_likeliest 9 = .ok (.bipush 8, 2) := by decide +kernel
theorem dX8_likeliest_11 : decode cX8_likeliest 11 = .ok (.if_icmp .ge 44, 3) := by decide +kernel
theorem dX8_likeliest_14 : decode cX8_likeliest 14 = .ok (.aload_n 0, 1) := by decide +kernel
theorem dX8_likeliest_15 : decode cX8_likeliest 15 = .ok (.getfield 21, 3) := by decide +kernel
theorem dX8_likeliest_18 : decode cX8_likeliest 18 = .ok (.iload 4, 2) := by decide +kernel
theorem dX8_likeliest_20 : decode cX8_likeliest 20 = .ok (.invokevirtual 206, 3) := by decide +kernel
theorem dX8_likeliest_23 : decode cX8_likeliest 23 = .ok (.invokestatic 178, 3) := by decide +kernel
theorem dX8_likeliest_26 : decode cX8_likeliest 26 = .ok (.istore 5, 2) := by decide +kernel
theorem dX8_likeliest_28 : decode cX8_likeliest 28 = .ok (.iload_n 1, 1) := by decide +kernel
theorem dX8_likeliest_29 : decode cX8_likeliest 29 = .ok (.iload 4, 2) := by decide +kernel
theorem dX8_likeliest_31 : decode cX8_likeliest 31 = .ok (.invokestatic 209, 3) := by decide +kernel
theorem dX8_likeliest_34 : decode cX8_likeliest 34 = .ok (.ifCond .eq 15, 3) := by decide +kernel
theorem dX8_likeliest_37 : decode cX8_likeliest 37 = .ok (.iload 5, 2) := by decide +kernel
theorem dX8_likeliest_39 : decode cX8_likeliest 39 = .ok (.iload_n 3, 1) := by decide +kernel
theorem dX8_likeliest_40 : decode cX8_likeliest 40 = .ok (.if_icmp .le 9, 3) := by decide +kernel
theorem dX8_likeliest_43 : decode cX8_likeliest 43 = .ok (.iload 5, 2) := by decide +kernel
theorem dX8_likeliest_45 : decode cX8_likeliest 45 = .ok (.istore_n 3, 1) := by decide +kernel
theorem dX8_likeliest_46 : decode cX8_likeliest 46 = .ok (.iload 4, 2) := by decide +kernel
theorem dX8_likeliest_48 : decode cX8_likeliest 48 = .ok (.istore_n 2, 1) := by decide +kernel
theorem dX8_likeliest_49 : decode cX8_likeliest 49 = .ok (.iinc 4 1, 3) := by decide +kernel
theorem dX8_likeliest_52 : decode cX8_likeliest 52 = .ok (.goto (-45), 3) := by decide +kernel
theorem dX8_likeliest_55 : decode cX8_likeliest 55 = .ok (.iload_n 2, 1) := by decide +kernel
theorem dX8_likeliest_56 : decode cX8_likeliest 56 = .ok (.ireturn, 1) := by decide +kernel
theorem dX8_restsOf_0 : decode cX8_restsOf 0 = .ok (.iconst 0, 1) := by decide +kernel
theorem dX8_restsOf_1 : decode cX8_restsOf 1 = .ok (.istore_n 2, 1) := by decide +kernel
theorem dX8_restsOf_2 : decode cX8_restsOf 2 = .ok (.iconst 0, 1) := by decide +kernel
theorem dX8_restsOf_3 : decode cX8_restsOf 3 = .ok (.istore_n 3, 1) := by decide +kernel
theorem dX8_restsOf_4 : decode cX8_restsOf 4 = .ok (.iload_n 3, 1) := by decide +kernel
theorem dX8_restsOf_5 : decode cX8_restsOf 5 = .ok (.iconst 4, 1) := by decide +kernel
theorem dX8_restsOf_6 : decode cX8_restsOf 6 = .ok (.if_icmp .ge 73, 3) := by decide +kernel
theorem dX8_restsOf_9 : decode cX8_restsOf 9 = .ok (.aload_n 0, 1) := by decide +kernel
theorem dX8_restsOf_10 : decode cX8_restsOf 10 = .ok (.iload_n 1, 1) := by decide +kernel
theorem dX8_restsOf_11 : decode cX8_restsOf 11 = .ok (.iload_n 3, 1) := by decide +kernel
theorem dX8_restsOf_12 : decode cX8_restsOf 12 = .ok (.invokevirtual 213, 3) := by decide +kernel
theorem dX8_restsOf_15 : decode cX8_restsOf 15 = .ok (.aload_n 0, 1) := by decide +kernel
theorem dX8_restsOf_16 : decode cX8_restsOf 16 = .ok (.iload_n 1, 1) := by decide +kernel
theorem dX8_restsOf_17 : decode cX8_restsOf 17 = .ok (.iload_n 3, 1) := by decide +kernel
theorem dX8_restsOf_18 : decode cX8_restsOf 18 = .ok (.iconst 2, 1) := by decide +kernel
theorem dX8_restsOf_19 : decode cX8_restsOf 19 = .ok (.ixor, 1) := by decide +kernel
theorem dX8_restsOf_20 : decode cX8_restsOf 20 = .ok (.invokevirtual 213, 3) := by decide +kernel
theorem dX8_restsOf_23 : decode cX8_restsOf 23 = .ok (.if_icmp .lt 7, 3) := by decide +kernel
theorem dX8_restsOf_26 : decode cX8_restsOf 26 = .ok (.iconst 1, 1) := by decide +kernel
theorem dX8_restsOf_27 : decode cX8_restsOf 27 = .ok (.goto 4, 3) := by decide +kernel
theorem dX8_restsOf_30 : decode cX8_restsOf 30 = .ok (.iconst 0, 1) := by decide +kernel
theorem dX8_restsOf_31 : decode cX8_restsOf 31 = .ok (.istore 4, 2) := by decide +kernel
theorem dX8_restsOf_33 : decode cX8_restsOf 33 = .ok (.aload_n 0, 1) := by decide +kernel
theorem dX8_restsOf_34 : decode cX8_restsOf 34 = .ok (.iload_n 1, 1) := by decide +kernel
theorem dX8_restsOf_35 : decode cX8_restsOf 35 = .ok (.iload_n 3, 1) := by decide +kernel
theorem dX8_restsOf_36 : decode cX8_restsOf 36 = .ok (.invokevirtual 216, 3) := by decide +kernel
theorem dX8_restsOf_39 : decode cX8_restsOf 39 = .ok (.aload_n 0, 1) := by decide +kernel
theorem dX8_restsOf_40 : decode cX8_restsOf 40 = .ok (.iload_n 1, 1) := by decide +kernel
theorem dX8_restsOf_41 : decode cX8_restsOf 41 = .ok (.iload_n 3, 1) := by decide +kernel
theorem dX8_restsOf_42 : decode cX8_restsOf 42 = .ok (.iconst 1, 1) := by decide +kernel
theorem dX8_restsOf_43 : decode cX8_restsOf 43 = .ok (.ixor, 1) := by decide +kernel
theorem dX8_restsOf_44 : decode cX8_restsOf 44 = .ok (.invokevirtual 216, 3) := by decide +kernel
theorem dX8_restsOf_47 : decode cX8_restsOf 47 = .ok (.if_icmp .lt 7, 3) := by decide +kernel
theorem dX8_restsOf_50 : decode cX8_restsOf 50 = .ok (.iconst 1, 1) := by decide +kernel
theorem dX8_restsOf_51 : decode cX8_restsOf 51 = .ok (.goto 4, 3) := by decide +kernel
theorem dX8_restsOf_54 : decode cX8_restsOf 54 = .ok (.iconst 0, 1) := by decide +kernel
theorem dX8_restsOf_55 : decode cX8_restsOf 55 = .ok (.istore 5, 2) := by decide +kernel
theorem dX8_restsOf_57 : decode cX8_restsOf 57 = .ok (.iload 4, 2) := by decide +kernel
theorem dX8_restsOf_59 : decode cX8_restsOf 59 = .ok (.ifCond .eq 14, 3) := by decide +kernel
theorem dX8_restsOf_62 : decode cX8_restsOf 62 = .ok (.iload 5, 2) := by decide +kernel
theorem dX8_restsOf_64 : decode cX8_restsOf 64 = .ok (.ifCond .eq 9, 3) := by decide +kernel
theorem dX8_restsOf_67 : decode cX8_restsOf 67 = .ok (.iload_n 2, 1) := by decide +kernel
theorem dX8_restsOf_68 : decode cX8_restsOf 68 = .ok (.iconst 1, 1) := by decide +kernel
theorem dX8_restsOf_69 : decode cX8_restsOf 69 = .ok (.iload_n 3, 1) := by decide +kernel
theorem dX8_restsOf_70 : decode cX8_restsOf 70 = .ok (.ishl, 1) := by decide +kernel
theorem dX8_restsOf_71 : decode cX8_restsOf 71 = .ok (.ior, 1) := by decide +kernel
theorem dX8_restsOf_72 : decode cX8_restsOf 72 = .ok (.istore_n 2, 1) := by decide +kernel
theorem dX8_restsOf_73 : decode cX8_restsOf 73 = .ok (.iinc 3 1, 3) := by decide +kernel
theorem dX8_restsOf_76 : decode cX8_restsOf 76 = .ok (.goto (-72), 3) := by decide +kernel
theorem dX8_restsOf_79 : decode cX8_restsOf 79 = .ok (.iload_n 2, 1) := by decide +kernel
theorem dX8_restsOf_80 : decode cX8_restsOf 80 = .ok (.ireturn, 1) := by decide +kernel
theorem dX8_fromHas_0 : decode cX8_fromHas 0 = .ok (.aload_n 0, 1) := by decide +kernel
theorem dX8_fromHas_1 : decode cX8_fromHas 1 = .ok (.getfield 21, 3) := by decide +kernel
theorem dX8_fromHas_4 : decode cX8_fromHas 4 = .ok (.getfield 154, 3) := by decide +kernel
theorem dX8_fromHas_7 : decode cX8_fromHas 7 = .ok (.iload_n 1, 1) := by decide +kernel
theorem dX8_fromHas_8 : decode cX8_fromHas 8 = .ok (.invokestatic 76, 3) := by decide +kernel
theorem dX8_fromHas_11 : decode cX8_fromHas 11 = .ok (.istore_n 3, 1) := by decide +kernel
theorem dX8_fromHas_12 : decode cX8_fromHas 12 = .ok (.iload_n 2, 1) := by decide +kernel
theorem dX8_fromHas_13 : decode cX8_fromHas 13 = .ok (.tableswitch 61 0 2 #[27, 36, 38], 27) := by decide +kernel
theorem dX8_fromHas_40 : decode cX8_fromHas 40 = .ok (.aload_n 0, 1) := by decide +kernel
theorem dX8_fromHas_41 : decode cX8_fromHas 41 = .ok (.getfield 32, 3) := by decide +kernel
theorem dX8_fromHas_44 : decode cX8_fromHas 44 = .ok (.iload_n 3, 1) := by decide +kernel
theorem dX8_fromHas_45 : decode cX8_fromHas 45 = .ok (.invokestatic 76, 3) := by decide +kernel
theorem dX8_fromHas_48 : decode cX8_fromHas 48 = .ok (.ireturn, 1) := by decide +kernel
theorem dX8_fromHas_49 : decode cX8_fromHas 49 = .ok (.iconst (-1), 1) := by decide +kernel
theorem dX8_fromHas_50 : decode cX8_fromHas 50 = .ok (.ireturn, 1) := by decide +kernel
theorem dX8_fromHas_51 : decode cX8_fromHas 51 = .ok (.aload_n 0, 1) := by decide +kernel
theorem dX8_fromHas_52 : decode cX8_fromHas 52 = .ok (.getfield 12, 3) := by decide +kernel
theorem dX8_fromHas_55 : decode cX8_fromHas 55 = .ok (.getfield 160, 3) := by decide +kernel
theorem dX8_fromHas_58 : decode cX8_fromHas 58 = .ok (.aload_n 0, 1) := by decide +kernel
theorem dX8_fromHas_59 : decode cX8_fromHas 59 = .ok (.getfield 21, 3) := by decide +kernel
theorem dX8_fromHas_62 : decode cX8_fromHas 62 = .ok (.getfield 163, 3) := by decide +kernel
theorem dX8_fromHas_65 : decode cX8_fromHas 65 = .ok (.iload_n 1, 1) := by decide +kernel
theorem dX8_fromHas_66 : decode cX8_fromHas 66 = .ok (.invokestatic 76, 3) := by decide +kernel
theorem dX8_fromHas_69 : decode cX8_fromHas 69 = .ok (.invokestatic 76, 3) := by decide +kernel
theorem dX8_fromHas_72 : decode cX8_fromHas 72 = .ok (.ineg, 1) := by decide +kernel
theorem dX8_fromHas_73 : decode cX8_fromHas 73 = .ok (.ireturn, 1) := by decide +kernel
theorem dX8_fromHas_74 : decode cX8_fromHas 74 = .ok (.aload_n 0, 1) := by decide +kernel
theorem dX8_fromHas_75 : decode cX8_fromHas 75 = .ok (.getfield 36, 3) := by decide +kernel
theorem dX8_fromHas_78 : decode cX8_fromHas 78 = .ok (.iload_n 3, 1) := by decide +kernel
theorem dX8_fromHas_79 : decode cX8_fromHas 79 = .ok (.invokestatic 76, 3) := by decide +kernel
theorem dX8_fromHas_82 : decode cX8_fromHas 82 = .ok (.iconst 2, 1) := by decide +kernel
theorem dX8_fromHas_83 : decode cX8_fromHas 83 = .ok (.idiv, 1) := by decide +kernel
theorem dX8_fromHas_84 : decode cX8_fromHas 84 = .ok (.ireturn, 1) := by decide +kernel
theorem dX8_toHas_0 : decode cX8_toHas 0 = .ok (.iload_n 2, 1) := by decide +kernel
theorem dX8_toHas_1 : decode cX8_toHas 1 = .ok (.tableswitch 34 0 2 #[27, 29, 32], 27) := by decide +kernel
theorem dX8_toHas_28 : decode cX8_toHas 28 = .ok (.iconst 2, 1) := by decide +kernel
theorem dX8_toHas_29 : decode cX8_toHas 29 = .ok (.ireturn, 1) := by decide +kernel
theorem dX8_toHas_30 : decode cX8_toHas 30 = .ok (.bipush (-3), 2) := by decide +kernel
theorem dX8_toHas_32 : decode cX8_toHas 32 = .ok (.ireturn, 1) := by decide +kernel
theorem dX8_toHas_33 : decode cX8_toHas 33 = .ok (.iconst 4, 1) := by decide +kernel
theorem dX8_toHas_34 : decode cX8_toHas 34 = .ok (.ireturn, 1) := by decide +kernel
theorem dX8_toHas_35 : decode cX8_toHas 35 = .ok (.aload_n 0, 1) := by decide +kernel
theorem dX8_toHas_36 : decode cX8_toHas 36 = .ok (.getfield 36, 3) := by decide +kernel
theorem dX8_toHas_39 : decode cX8_toHas 39 = .ok (.aload_n 0, 1) := by decide +kernel
theorem dX8_toHas_40 : decode cX8_toHas 40 = .ok (.getfield 21, 3) := by decide +kernel
theorem dX8_toHas_43 : decode cX8_toHas 43 = .ok (.getfield 154, 3) := by decide +kernel
theorem dX8_toHas_46 : decode cX8_toHas 46 = .ok (.iload_n 1, 1) := by decide +kernel
theorem dX8_toHas_47 : decode cX8_toHas 47 = .ok (.invokestatic 76, 3) := by decide +kernel
theorem dX8_toHas_50 : decode cX8_toHas 50 = .ok (.invokestatic 76, 3) := by decide +kernel
theorem dX8_toHas_53 : decode cX8_toHas 53 = .ok (.iconst 2, 1) := by decide +kernel
theorem dX8_toHas_54 : decode cX8_toHas 54 = .ok (.idiv, 1) := by decide +kernel
theorem dX8_toHas_55 : decode cX8_toHas 55 = .ok (.ireturn, 1) := by decide +kernel
theorem dX9_init_0 : decode cX9_init 0 = .ok (.aload_n 0, 1) := by decide +kernel
theorem dX9_init_1 : decode cX9_init 1 = .ok (.invokespecial 3, 3) := by decide +kernel
theorem dX9_init_4 : decode cX9_init 4 = .ok (.aload_n 0, 1) := by decide +kernel
theorem dX9_init_5 : decode cX9_init 5 = .ok (.aload_n 1, 1) := by decide +kernel
theorem dX9_init_6 : decode cX9_init 6 = .ok (.putfield 9, 3) := by decide +kernel
theorem dX9_init_9 : decode cX9_init 9 = .ok (.return_, 1) := by decide +kernel
theorem dX9_read_0 : decode cX9_read 0 = .ok (.aload_n 0, 1) := by decide +kernel
theorem dX9_read_1 : decode cX9_read 1 = .ok (.getfield 9, 3) := by decide +kernel
theorem dX9_read_4 : decode cX9_read 4 = .ok (.bipush (-3), 2) := by decide +kernel
theorem dX9_read_6 : decode cX9_read 6 = .ok (.invokevirtual 15, 3) := by decide +kernel
theorem dX9_read_9 : decode cX9_read 9 = .ok (.ifCond .eq 4, 3) := by decide +kernel
theorem dX9_read_12 : decode cX9_read 12 = .ok (.return_, 1) := by decide +kernel
theorem dX9_read_13 : decode cX9_read 13 = .ok (.iconst 0, 1) := by decide +kernel
theorem dX9_read_14 : decode cX9_read 14 = .ok (.istore_n 2, 1) := by decide +kernel
theorem dX9_read_15 : decode cX9_read 15 = .ok (.iload_n 2, 1) := by decide +kernel
theorem dX9_read_16 : decode cX9_read 16 = .ok (.bipush 14, 2) := by decide +kernel
theorem dX9_read_18 : decode cX9_read 18 = .ok (.if_icmp .ge 37, 3) := by decide +kernel
theorem dX9_read_21 : decode cX9_read 21 = .ok (.aload_n 0, 1) := by decide +kernel
theorem dX9_read_22 : decode cX9_read 22 = .ok (.aload_n 1, 1) := by decide +kernel
theorem dX9_read_23 : decode cX9_read 23 = .ok (.invokevirtual 21, 3) := by decide +kernel
theorem dX9_read_26 : decode cX9_read 26 = .ok (.aload_n 0, 1) := by decide +kernel
theorem dX9_read_27 : decode cX9_read 27 = .ok (.getfield 9, 3) := by decide +kernel
theorem dX9_read_30 : decode cX9_read 30 = .ok (.bipush (-3), 2) := by decide +kernel
theorem dX9_read_32 : decode cX9_read 32 = .ok (.invokevirtual 15, 3) := by decide +kernel
theorem dX9_read_35 : decode cX9_read 35 = .ok (.ifCond .eq 4, 3) := by decide +kernel
theorem dX9_read_38 : decode cX9_read 38 = .ok (.return_, 1) := by decide +kernel
theorem dX9_read_39 : decode cX9_read 39 = .ok (.aload_n 0, 1) := by decide +kernel
theorem dX9_read_40 : decode cX9_read 40 = .ok (.getfield 9, 3) := by decide +kernel
theorem dX9_read_43 : decode cX9_read 43 = .ok (.sipush 2059, 3) := by decide +kernel
theorem dX9_read_46 : decode cX9_read 46 = .ok (.invokevirtual 25, 3) := by decide +kernel
theorem dX9_read_49 : decode cX9_read 49 = .ok (.iinc 2 1, 3) := by decide +kernel
theorem dX9_read_52 : decode cX9_read 52 = .ok (.goto (-37), 3) := by decide +kernel
theorem dX9_read_55 : decode cX9_read 55 = .ok (.aload_n 0, 1) := by decide +kernel
theorem dX9_read_56 : decode cX9_read 56 = .ok (.getfield 9, 3) := by decide +kernel
theorem dX9_read_59 : decode cX9_read 59 = .ok (.invokevirtual 29, 3) := by decide +kernel
theorem dX9_read_62 : decode cX9_read 62 = .ok (.return_, 1) := by decide +kernel
theorem dX9_readLine_0 : decode cX9_readLine 0 = .ok (.aload_n 0, 1) := by decide +kernel
theorem dX9_readLine_1 : decode cX9_readLine 1 = .ok (.getfield 9, 3) := by decide +kernel
theorem dX9_readLine_4 : decode cX9_readLine 4 = .ok (.sipush 1030, 3) := by decide +kernel
theorem dX9_readLine_7 : decode cX9_readLine 7 = .ok (.invokevirtual 15, 3) := by decide +kernel
theorem dX9_readLine_10 : decode cX9_readLine 10 = .ok (.ifCond .eq 11, 3) := by decide +kernel
theorem dX9_readLine_13 : decode cX9_readLine 13 = .ok (.aload_n 0, 1) := by decide +kernel
theorem dX9_readLine_14 : decode cX9_readLine 14 = .ok (.aload_n 1, 1) := by decide +kernel
theorem dX9_readLine_15 : decode cX9_readLine 15 = .ok (.invokevirtual 32, 3) := by decide +kernel
theorem dX9_readLine_18 : decode cX9_readLine 18 = .ok (.goto 194, 3) := by decide +kernel
theorem dX9_readLine_21 : decode cX9_readLine 21 = .ok (.aload_n 0, 1) := by decide +kernel
theorem dX9_readLine_22 : decode cX9_readLine 22 = .ok (.getfield 9, 3) := by decide +kernel
theorem dX9_readLine_25 : decode cX9_readLine 25 = .ok (.sipush 1033, 3) := by decide +kernel
theorem dX9_readLine_28 : decode cX9_readLine 28 = .ok (.invokevirtual 35, 3) := by decide +kernel
theorem dX9_readLine_31 : decode cX9_readLine 31 = .ok (.ifCond .eq 11, 3) := by decide +kernel
theorem dX9_readLine_34 : decode cX9_readLine 34 = .ok (.aload_n 0, 1) := by decide +kernel
theorem dX9_readLine_35 : decode cX9_readLine 35 = .ok (.aload_n 1, 1) := by decide +kernel
theorem dX9_readLine_36 : decode cX9_readLine 36 = .ok (.invokevirtual 38, 3) := by decide +kernel
theorem dX9_readLine_39 : decode cX9_readLine 39 = .ok (.goto 173, 3) := by decide +kernel
theorem dX9_readLine_42 : decode cX9_readLine 42 = .ok (.aload_n 0, 1) := by decide +kernel
theorem dX9_readLine_43 : decode cX9_readLine 43 = .ok (.getfield 9, 3) := by decide +kernel
theorem dX9_readLine_46 : decode cX9_readLine 46 = .ok (.sipush 1012, 3) := by decide +kernel
theorem dX9_readLine_49 : decode cX9_readLine 49 = .ok (.invokevirtual 15, 3) := by decide +kernel
theorem dX9_readLine_52 : decode cX9_readLine 52 = .ok (.ifCond .eq 11, 3) := by decide +kernel
theorem dX9_readLine_55 : decode cX9_readLine 55 = .ok (.aload_n 0, 1) := by decide +kernel
theorem dX9_readLine_56 : decode cX9_readLine 56 = .ok (.aload_n 1, 1) := by decide +kernel
theorem dX9_readLine_57 : decode cX9_readLine 57 = .ok (.invokevirtual 41, 3) := by decide +kernel
theorem dX9_readLine_60 : decode cX9_readLine 60 = .ok (.goto 152, 3) := by decide +kernel
theorem dX9_readLine_63 : decode cX9_readLine 63 = .ok (.aload_n 0, 1) := by decide +kernel
theorem dX9_readLine_64 : decode cX9_readLine 64 = .ok (.getfield 9, 3) := by decide +kernel
theorem dX9_readLine_67 : decode cX9_readLine 67 = .ok (.sipush 1018, 3) := by decide +kernel
theorem dX9_readLine_70 : decode cX9_readLine 70 = .ok (.invokevirtual 35, 3) := by decide +kernel
theorem dX9_readLine_73 : decode cX9_readLine 73 = .ok (.ifCond .eq 35, 3) := by decide +kernel
theorem dX9_readLine_76 : decode cX9_readLine 76 = .ok (.aload_n 0, 1) := by decide +kernel
theorem dX9_readLine_77 : decode cX9_readLine 77 = .ok (.getfield 9, 3) := by decide +kernel
theorem dX9_readLine_80 : decode cX9_readLine 80 = .ok (.sipush 1008, 3) := by decide +kernel
theorem dX9_readLine_83 : decode cX9_readLine 83 = .ok (.iconst 4, 1) := by decide +kernel
theorem dX9_readLine_84 : decode cX9_readLine 84 = .ok (.invokevirtual 44, 3) := by decide +kernel
theorem dX9_readLine_87 : decode cX9_readLine 87 = .ok (.istore_n 2, 1) := by decide +kernel
theorem dX9_readLine_88 : decode cX9_readLine 88 = .ok (.aload_n 1, 1) := by decide +kernel
theorem dX9_readLine_89 : decode cX9_readLine 89 = .ok (.getfield 48, 3) := by decide +kernel
theorem dX9_readLine_92 : decode cX9_readLine 92 = .ok (.iload_n 2, 1) := by decide +kernel
theorem dX9_readLine_93 : decode cX9_readLine 93 = .ok (.aload_n 0, 1) := by decide +kernel
theorem dX9_readLine_94 : decode cX9_readLine 94 = .ok (.getfield 9, 3) := by decide +kernel
theorem dX9_readLine_97 : decode cX9_readLine 97 = .ok (.bipush 20, 2) := by decide +kernel
theorem dX9_readLine_99 : decode cX9_readLine 99 = .ok (.invokevirtual 54, 3) := by decide +kernel
theorem dX9_readLine_102 : decode cX9_readLine 102 = .ok (.invokestatic 58, 3) := by decide +kernel
theorem dX9_readLine_105 : decode cX9_readLine 105 = .ok (.goto 107, 3) := by decide +kernel
theorem dX9_readLine_108 : decode cX9_readLine 108 = .ok (.aload_n 0, 1) := by decide +kernel
theorem dX9_readLine_109 : decode cX9_readLine 109 = .ok (.getfield 9, 3) := by decide +kernel
theorem dX9_readLine_112 : decode cX9_readLine 112 = .ok (.sipush 1035, 3) := by decide +kernel
theorem dX9_readLine_115 : decode cX9_readLine 115 = .ok (.invokevirtual 35, 3) := by decide +kernel
theorem dX9_readLine_118 : decode cX9_readLine 118 = .ok (.ifCond .eq 20, 3) := by decide +kernel
theorem dX9_readLine_121 : decode cX9_readLine 121 = .ok (.aload_n 1, 1) := by decide +kernel
theorem dX9_readLine_122 : decode cX9_readLine 122 = .ok (.aload_n 0, 1) := by decide +kernel
theorem dX9_readLine_123 : decode cX9_readLine 123 = .ok (.getfield 9, 3) := by decide +kernel
theorem dX9_readLine_126 : decode cX9_readLine 126 = .ok (.sipush 999, 3) := by decide +kernel
theorem dX9_readLine_129 : decode cX9_readLine 129 = .ok (.invokevirtual 54, 3) := by decide +kernel
theorem dX9_readLine_132 : decode cX9_readLine 132 = .ok (.putfield 62, 3) := by decide +kernel
theorem dX9_readLine_135 : decode cX9_readLine 135 = .ok (.goto 77, 3) := by decide +kernel
theorem dX9_readLine_138 : decode cX9_readLine 138 = .ok (.aload_n 0, 1) := by decide +kernel
theorem dX9_readLine_139 : decode cX9_readLine 139 = .ok (.getfield 9, 3) := by decide +kernel
theorem dX9_readLine_142 : decode cX9_readLine 142 = .ok (.sipush 1036, 3) := by decide +kernel
theorem dX9_readLine_145 : decode cX9_readLine 145 = .ok (.invokevirtual 35, 3) := by decide +kernel
theorem dX9_readLine_148 : decode cX9_readLine 148 = .ok (.ifCond .eq 19, 3) := by decide +kernel
theorem dX9_readLine_151 : decode cX9_readLine 151 = .ok (.aload_n 1, 1) := by decide +kernel
theorem dX9_readLine_152 : decode cX9_readLine 152 = .ok (.aload_n 0, 1) := by decide +kernel
theorem dX9_readLine_153 : decode cX9_readLine 153 = .ok (.getfield 9, 3) := by decide +kernel
theorem dX9_readLine_156 : decode cX9_readLine 156 = .ok (.bipush 100, 2) := by decide +kernel
theorem dX9_readLine_158 : decode cX9_readLine 158 = .ok (.invokevirtual 54, 3) := by decide +kernel
theorem dX9_readLine_161 : decode cX9_readLine 161 = .ok (.putfield 66, 3) := by decide +kernel
theorem dX9_readLine_164 : decode cX9_readLine 164 = .ok (.goto 48, 3) := by decide +kernel
theorem dX9_readLine_167 : decode cX9_readLine 167 = .ok (.aload_n 0, 1) := by decide +kernel
theorem dX9_readLine_168 : decode cX9_readLine 168 = .ok (.getfield 9, 3) := by decide +kernel
theorem dX9_readLine_171 : decode cX9_readLine 171 = .ok (.sipush 1037, 3) := by decide +kernel
theorem dX9_readLine_174 : decode cX9_readLine 174 = .ok (.invokevirtual 35, 3) := by decide +kernel
theorem dX9_readLine_177 : decode cX9_readLine 177 = .ok (.ifCond .eq 20, 3) := by decide +kernel
theorem dX9_readLine_180 : decode cX9_readLine 180 = .ok (.aload_n 1, 1) := by decide +kernel
theorem dX9_readLine_181 : decode cX9_readLine 181 = .ok (.aload_n 0, 1) := by decide +kernel
theorem dX9_readLine_182 : decode cX9_readLine 182 = .ok (.getfield 9, 3) := by decide +kernel
theorem dX9_readLine_185 : decode cX9_readLine 185 = .ok (.sipush 999, 3) := by decide +kernel
theorem dX9_readLine_188 : decode cX9_readLine 188 = .ok (.invokevirtual 54, 3) := by decide +kernel
theorem dX9_readLine_191 : decode cX9_readLine 191 = .ok (.putfield 69, 3) := by decide +kernel
theorem dX9_readLine_194 : decode cX9_readLine 194 = .ok (.goto 18, 3) := by decide +kernel
theorem dX9_readLine_197 : decode cX9_readLine 197 = .ok (.aload_n 0, 1) := by decide +kernel
theorem dX9_readLine_198 : decode cX9_readLine 198 = .ok (.getfield 9, 3) := by decide +kernel
theorem dX9_readLine_201 : decode cX9_readLine 201 = .ok (.sipush 1022, 3) := by decide +kernel
theorem dX9_readLine_204 : decode cX9_readLine 204 = .ok (.invokevirtual 25, 3) := by decide +kernel
theorem dX9_readLine_207 : decode cX9_readLine 207 = .ok (.aload_n 1, 1) := by decide +kernel
theorem dX9_readLine_208 : decode cX9_readLine 208 = .ok (.iconst 1, 1) := by decide +kernel
theorem dX9_readLine_209 : decode cX9_readLine 209 = .ok (.putfield 72, 3) := by decide +kernel
theorem dX9_readLine_212 : decode cX9_readLine 212 = .ok (.return_, 1) := by decide +kernel
theorem dX9_readFamily_0 : decode cX9_readFamily 0 = .ok (.aload_n 1, 1) := by decide +kernel
theorem dX9_readFamily_1 : decode cX9_readFamily 1 = .ok (.getfield 76, 3) := by decide +kernel
theorem dX9_readFamily_4 : decode cX9_readFamily 4 = .ok (.getfield 80, 3) := by decide +kernel
theorem dX9_readFamily_7 : decode cX9_readFamily 7 = .ok (.bipush 6, 2) := by decide +kernel
theorem dX9_readFamily_9 : decode cX9_readFamily 9 = .ok (.if_icmp .lt 10, 3) := by decide +kernel
theorem dX9_readFamily_12 : decode cX9_readFamily 12 = .ok (.aload_n 0, 1) := by decide +kernel
theorem dX9_readFamily_13 : decode cX9_readFamily 13 = .ok (.getfield 9, 3) := by decide +kernel
theorem dX9_readFamily_16 : decode cX9_readFamily 16 = .ok (.invokevirtual 29, 3) := by decide +kernel
theorem dX9_readFamily_19 : decode cX9_readFamily 19 = .ok (.aload_n 0, 1) := by decide +kernel
theorem dX9_readFamily_20 : decode cX9_readFamily 20 = .ok (.getfield 9, 3) := by decide +kernel
theorem dX9_readFamily_23 : decode cX9_readFamily 23 = .ok (.sipush 1030, 3) := by decide +kernel
theorem dX9_readFamily_26 : decode cX9_readFamily 26 = .ok (.invokevirtual 25, 3) := by decide +kernel
theorem dX9_readFamily_29 : decode cX9_readFamily 29 = .ok (.aload_n 0, 1) := by decide +kernel
theorem dX9_readFamily_30 : decode cX9_readFamily 30 = .ok (.getfield 9, 3) := by decide +kernel
theorem dX9_readFamily_33 : decode cX9_readFamily 33 = .ok (.sipush 1015, 3) := by decide +kernel
theorem dX9_readFamily_36 : decode cX9_readFamily 36 = .ok (.invokevirtual 25, 3) := by decide +kernel
theorem dX9_readFamily_39 : decode cX9_readFamily 39 = .ok (.aload_n 0, 1) := by decide +kernel
theorem dX9_readFamily_40 : decode cX9_readFamily 40 = .ok (.getfield 9, 3) := by decide +kernel
theorem dX9_readFamily_43 : decode cX9_readFamily 43 = .ok (.bipush 9, 2) := by decide +kernel
theorem dX9_readFamily_45 : decode cX9_readFamily 45 = .ok (.invokevirtual 54, 3) := by decide +kernel
theorem dX9_readFamily_48 : decode cX9_readFamily 48 = .ok (.istore_n 2, 1) := by decide +kernel
theorem dX9_readFamily_49 : decode cX9_readFamily 49 = .ok (.aload_n 0, 1) := by decide +kernel
theorem dX9_readFamily_50 : decode cX9_readFamily 50 = .ok (.getfield 9, 3) := by decide +kernel
theorem dX9_readFamily_53 : decode cX9_readFamily 53 = .ok (.sipush 1031, 3) := by decide +kernel
theorem dX9_readFamily_56 : decode cX9_readFamily 56 = .ok (.invokevirtual 25, 3) := by decide +kernel
theorem dX9_readFamily_59 : decode cX9_readFamily 59 = .ok (.aload_n 0, 1) := by decide +kernel
theorem dX9_readFamily_60 : decode cX9_readFamily 60 = .ok (.getfield 9, 3) := by decide +kernel
theorem dX9_readFamily_63 : decode cX9_readFamily 63 = .ok (.bipush 99, 2) := by decide +kernel
theorem dX9_readFamily_65 : decode cX9_readFamily 65 = .ok (.invokevirtual 54, 3) := by decide +kernel
theorem dX9_readFamily_68 : decode cX9_readFamily 68 = .ok (.istore_n 3, 1) := by decide +kernel
theorem dX9_readFamily_69 : decode cX9_readFamily 69 = .ok (.aload_n 0, 1) := by decide +kernel
theorem dX9_readFamily_70 : decode cX9_readFamily 70 = .ok (.getfield 9, 3) := by decide +kernel
theorem dX9_readFamily_73 : decode cX9_readFamily 73 = .ok (.sipush 1032, 3) := by decide +kernel
theorem dX9_readFamily_76 : decode cX9_readFamily 76 = .ok (.invokevirtual 35, 3) := by decide +kernel
theorem dX9_readFamily_79 : decode cX9_readFamily 79 = .ok (.ifCond .eq 16, 3) := by decide +kernel
theorem dX9_readFamily_82 : decode cX9_readFamily 82 = .ok (.aload_n 0, 1) := by decide +kernel
theorem dX9_readFamily_83 : decode cX9_readFamily 83 = .ok (.getfield 9, 3) := by decide +kernel
theorem dX9_readFamily_86 : decode cX9_readFamily 86 = .ok (.sipush 999, 3) := by decide +kernel
theorem dX9_readFamily_89 : decode cX9_readFamily 89 = .ok (.invokevirtual 54, 3) := by decide +kernel
theorem dX9_readFamily_92 : decode cX9_readFamily 92 = .ok (.goto 4, 3) := by decide +kernel
theorem dX9_readFamily_95 : decode cX9_readFamily 95 = .ok (.iconst 0, 1) := by decide +kernel
theorem dX9_readFamily_96 : decode cX9_readFamily 96 = .ok (.istore 4, 2) := by decide +kernel
theorem dX9_readFamily_98 : decode cX9_readFamily 98 = .ok (.aload_n 1, 1) := by decide +kernel
theorem dX9_readFamily_99 : decode cX9_readFamily 99 = .ok (.getfield 76, 3) := by decide +kernel
theorem dX9_readFamily_102 : decode cX9_readFamily 102 = .ok (.iload_n 2, 1) := by decide +kernel
theorem dX9_readFamily_103 : decode cX9_readFamily 103 = .ok (.iload_n 3, 1) := by decide +kernel
theorem dX9_readFamily_104 : decode cX9_readFamily 104 = .ok (.iload 4, 2) := by decide +kernel
theorem dX9_readFamily_106 : decode cX9_readFamily 106 = .ok (.invokevirtual 85, 3) := by decide +kernel
theorem dX9_readFamily_109 : decode cX9_readFamily 109 = .ok (.return_, 1) := by decide +kernel
theorem dX9_readSlight_0 : decode cX9_readSlight 0 = .ok (.aload_n 0, 1) := by decide +kernel
theorem dX9_readSlight_1 : decode cX9_readSlight 1 = .ok (.getfield 9, 3) := by decide +kernel
theorem dX9_readSlight_4 : decode cX9_readSlight 4 = .ok (.sipush 1000, 3) := by decide +kernel
theorem dX9_readSlight_7 : decode cX9_readSlight 7 = .ok (.bipush 8, 2) := by decide +kernel
theorem dX9_readSlight_9 : decode cX9_readSlight 9 = .ok (.invokevirtual 44, 3) := by decide +kernel
theorem dX9_readSlight_12 : decode cX9_readSlight 12 = .ok (.istore_n 2, 1) := by decide +kernel
theorem dX9_readSlight_13 : decode cX9_readSlight 13 = .ok (.aload_n 0, 1) := by decide +kernel
theorem dX9_readSlight_14 : decode cX9_readSlight 14 = .ok (.getfield 9, 3) := by decide +kernel
theorem dX9_readSlight_17 : decode cX9_readSlight 17 = .ok (.sipush 1016, 3) := by decide +kernel
theorem dX9_readSlight_20 : decode cX9_readSlight 20 = .ok (.invokevirtual 25, 3) := by decide +kernel
theorem dX9_readSlight_23 : decode cX9_readSlight 23 = .ok (.aload_n 0, 1) := by decide +kernel
theorem dX9_readSlight_24 : decode cX9_readSlight 24 = .ok (.getfield 9, 3) := by decide +kernel
theorem dX9_readSlight_27 : decode cX9_readSlight 27 = .ok (.bipush 9, 2) := by decide +kernel
theorem dX9_readSlight_29 : decode cX9_readSlight 29 = .ok (.invokevirtual 54, 3) := by decide +kernel
theorem dX9_readSlight_32 : decode cX9_readSlight 32 = .ok (.istore_n 3, 1) := by decide +kernel
theorem dX9_readSlight_33 : decode cX9_readSlight 33 = .ok (.aload_n 0, 1) := by decide +kernel
theorem dX9_readSlight_34 : decode cX9_readSlight 34 = .ok (.getfield 9, 3) := by decide +kernel
theorem dX9_readSlight_37 : decode cX9_readSlight 37 = .ok (.sipush 1017, 3) := by decide +kernel
theorem dX9_readSlight_40 : decode cX9_readSlight 40 = .ok (.invokevirtual 25, 3) := by decide +kernel
theorem dX9_readSlight_43 : decode cX9_readSlight 43 = .ok (.aload_n 0, 1) := by decide +kernel
theorem dX9_readSlight_44 : decode cX9_readSlight 44 = .ok (.getfield 9, 3) := by decide +kernel
theorem dX9_readSlight_47 : decode cX9_readSlight 47 = .ok (.bipush 9, 2) := by decide +kernel
theorem dX9_readSlight_49 : decode cX9_readSlight 49 = .ok (.invokevirtual 54, 3) := by decide +kernel
theorem dX9_readSlight_52 : decode cX9_readSlight 52 = .ok (.istore 4, 2) := by decide +kernel
theorem dX9_readSlight_54 : decode cX9_readSlight 54 = .ok (.aload_n 1, 1) := by decide +kernel
theorem dX9_readSlight_55 : decode cX9_readSlight 55 = .ok (.getfield 89, 3) := by decide +kernel
theorem dX9_readSlight_58 : decode cX9_readSlight 58 = .ok (.iload_n 2, 1) := by decide +kernel
theorem dX9_readSlight_59 : decode cX9_readSlight 59 = .ok (.iload_n 3, 1) := by decide +kernel
theorem dX9_readSlight_60 : decode cX9_readSlight 60 = .ok (.invokestatic 58, 3) := by decide +kernel
theorem dX9_readSlight_63 : decode cX9_readSlight 63 = .ok (.aload_n 1, 1) := by decide +kernel
theorem dX9_readSlight_64 : decode cX9_readSlight 64 = .ok (.getfield 92, 3) := by decide +kernel
theorem dX9_readSlight_67 : decode cX9_readSlight 67 = .ok (.iload_n 2, 1) := by decide +kernel
theorem dX9_readSlight_68 : decode cX9_readSlight 68 = .ok (.iload 4, 2) := by decide +kernel
theorem dX9_readSlight_70 : decode cX9_readSlight 70 = .ok (.invokestatic 58, 3) := by decide +kernel
theorem dX9_readSlight_73 : decode cX9_readSlight 73 = .ok (.return_, 1) := by decide +kernel
theorem dX9_readGrudge_0 : decode cX9_readGrudge 0 = .ok (.aload_n 1, 1) := by decide +kernel
theorem dX9_readGrudge_1 : decode cX9_readGrudge 1 = .ok (.getfield 95, 3) := by decide +kernel
theorem dX9_readGrudge_4 : decode cX9_readGrudge 4 = .ok (.getfield 99, 3) := by decide +kernel
theorem dX9_readGrudge_7 : decode cX9_readGrudge 7 = .ok (.bipush 10, 2) := by decide +kernel
theorem dX9_readGrudge_9 : decode cX9_readGrudge 9 = .ok (.if_icmp .lt 10, 3) := by decide +kernel
theorem dX9_readGrudge_12 : decode cX9_readGrudge 12 = .ok (.aload_n 0, 1) := by decide +kernel
theorem dX9_readGrudge_13 : decode cX9_readGrudge 13 = .ok (.getfield 9, 3) := by decide +kernel
theorem dX9_readGrudge_16 : decode cX9_readGrudge 16 = .ok (.invokevirtual 29, 3) := by decide +kernel
theorem dX9_readGrudge_19 : decode cX9_readGrudge 19 = .ok (.aload_n 0, 1) := by decide +kernel
theorem dX9_readGrudge_20 : decode cX9_readGrudge 20 = .ok (.getfield 9, 3) := by decide +kernel
theorem dX9_readGrudge_23 : decode cX9_readGrudge 23 = .ok (.sipush 1012, 3) := by decide +kernel
theorem dX9_readGrudge_26 : decode cX9_readGrudge 26 = .ok (.invokevirtual 25, 3) := by decide +kernel
theorem dX9_readGrudge_29 : decode cX9_readGrudge 29 = .ok (.aload_n 0, 1) := by decide +kernel
theorem dX9_readGrudge_30 : decode cX9_readGrudge 30 = .ok (.getfield 9, 3) := by decide +kernel
theorem dX9_readGrudge_33 : decode cX9_readGrudge 33 = .ok (.aload_n 1, 1) := by decide +kernel
theorem dX9_readGrudge_34 : decode cX9_readGrudge 34 = .ok (.getfield 76, 3) := by decide +kernel
theorem dX9_readGrudge_37 : decode cX9_readGrudge 37 = .ok (.getfield 80, 3) := by decide +kernel
theorem dX9_readGrudge_40 : decode cX9_readGrudge 40 = .ok (.iconst 1, 1) := by decide +kernel
theorem dX9_readGrudge_41 : decode cX9_readGrudge 41 = .ok (.isub, 1) := by decide +kernel
theorem dX9_readGrudge_42 : decode cX9_readGrudge 42 = .ok (.invokevirtual 54, 3) := by decide +kernel
theorem dX9_readGrudge_45 : decode cX9_readGrudge 45 = .ok (.istore_n 2, 1) := by decide +kernel
theorem dX9_readGrudge_46 : decode cX9_readGrudge 46 = .ok (.aload_n 0, 1) := by decide +kernel
theorem dX9_readGrudge_47 : decode cX9_readGrudge 47 = .ok (.getfield 9, 3) := by decide +kernel
theorem dX9_readGrudge_50 : decode cX9_readGrudge 50 = .ok (.iload_n 2, 1) := by decide +kernel
theorem dX9_readGrudge_51 : decode cX9_readGrudge 51 = .ok (.invokevirtual 15, 3) := by decide +kernel
theorem dX9_readGrudge_54 : decode cX9_readGrudge 54 = .ok (.ifCond .eq 10, 3) := by decide +kernel
theorem dX9_readGrudge_57 : decode cX9_readGrudge 57 = .ok (.aload_n 0, 1) := by decide +kernel
theorem dX9_readGrudge_58 : decode cX9_readGrudge 58 = .ok (.getfield 9, 3) := by decide +kernel
theorem dX9_readGrudge_61 : decode cX9_readGrudge 61 = .ok (.invokevirtual 29, 3) := by decide +kernel
theorem dX9_readGrudge_64 : decode cX9_readGrudge 64 = .ok (.aload_n 0, 1) := by decide +kernel
theorem dX9_readGrudge_65 : decode cX9_readGrudge 65 = .ok (.getfield 9, 3) := by decide +kernel
theorem dX9_readGrudge_68 : decode cX9_readGrudge 68 = .ok (.aload_n 1, 1) := by decide +kernel
theorem dX9_readGrudge_69 : decode cX9_readGrudge 69 = .ok (.getfield 76, 3) := by decide +kernel
theorem dX9_readGrudge_72 : decode cX9_readGrudge 72 = .ok (.getfield 80, 3) := by decide +kernel
theorem dX9_readGrudge_75 : decode cX9_readGrudge 75 = .ok (.iconst 1, 1) := by decide +kernel
theorem dX9_readGrudge_76 : decode cX9_readGrudge 76 = .ok (.isub, 1) := by decide +kernel
theorem dX9_readGrudge_77 : decode cX9_readGrudge 77 = .ok (.invokevirtual 54, 3) := by decide +kernel
theorem dX9_readGrudge_80 : decode cX9_readGrudge 80 = .ok (.istore_n 3, 1) := by decide +kernel
theorem dX9_readGrudge_81 : decode cX9_readGrudge 81 = .ok (.aload_n 0, 1) := by decide +kernel
theorem dX9_readGrudge_82 : decode cX9_readGrudge 82 = .ok (.getfield 9, 3) := by decide +kernel
theorem dX9_readGrudge_85 : decode cX9_readGrudge 85 = .ok (.sipush 1034, 3) := by decide +kernel
theorem dX9_readGrudge_88 : decode cX9_readGrudge 88 = .ok (.invokevirtual 25, 3) := by decide +kernel
theorem dX9_readGrudge_91 : decode cX9_readGrudge 91 = .ok (.aload_n 0, 1) := by decide +kernel
theorem dX9_readGrudge_92 : decode cX9_readGrudge 92 = .ok (.getfield 9, 3) := by decide +kernel
theorem dX9_readGrudge_95 : decode cX9_readGrudge 95 = .ok (.sipush 1000, 3) := by decide +kernel
theorem dX9_readGrudge_98 : decode cX9_readGrudge 98 = .ok (.bipush 8, 2) := by decide +kernel
theorem dX9_readGrudge_100 : decode cX9_readGrudge 100 = .ok (.invokevirtual 44, 3) := by decide +kernel
theorem dX9_readGrudge_103 : decode cX9_readGrudge 103 = .ok (.istore 4, 2) := by decide +kernel
theorem dX9_readGrudge_105 : decode cX9_readGrudge 105 = .ok (.aload_n 0, 1) := by decide +kernel
theorem dX9_readGrudge_106 : decode cX9_readGrudge 106 = .ok (.getfield 9, 3) := by decide +kernel
theorem dX9_readGrudge_109 : decode cX9_readGrudge 109 = .ok (.sipush 1014, 3) := by decide +kernel
theorem dX9_readGrudge_112 : decode cX9_readGrudge 112 = .ok (.invokevirtual 25, 3) := by decide +kernel
theorem dX9_readGrudge_115 : decode cX9_readGrudge 115 = .ok (.aload_n 1, 1) := by decide +kernel
theorem dX9_readGrudge_116 : decode cX9_readGrudge 116 = .ok (.getfield 95, 3) := by decide +kernel
theorem dX9_readGrudge_119 : decode cX9_readGrudge 119 = .ok (.iload_n 2, 1) := by decide +kernel
theorem dX9_readGrudge_120 : decode cX9_readGrudge 120 = .ok (.iload_n 3, 1) := by decide +kernel
theorem dX9_readGrudge_121 : decode cX9_readGrudge 121 = .ok (.iload 4, 2) := by decide +kernel
theorem dX9_readGrudge_123 : decode cX9_readGrudge 123 = .ok (.aload_n 0, 1) := by decide +kernel
theorem dX9_readGrudge_124 : decode cX9_readGrudge 124 = .ok (.getfield 9, 3) := by decide +kernel
theorem dX9_readGrudge_127 : decode cX9_readGrudge 127 = .ok (.sipush 999, 3) := by decide +kernel
theorem dX9_readGrudge_130 : decode cX9_readGrudge 130 = .ok (.invokevirtual 54, 3) := by decide +kernel
theorem dX9_readGrudge_133 : decode cX9_readGrudge 133 = .ok (.invokevirtual 102, 3) := by decide +kernel
theorem dX9_readGrudge_136 : decode cX9_readGrudge 136 = .ok (.istore 5, 2) := by decide +kernel
theorem dX9_readGrudge_138 : decode cX9_readGrudge 138 = .ok (.aload_n 0, 1) := by decide +kernel
theorem dX9_readGrudge_139 : decode cX9_readGrudge 139 = .ok (.getfield 9, 3) := by decide +kernel
theorem dX9_readGrudge_142 : decode cX9_readGrudge 142 = .ok (.sipush 1013, 3) := by decide +kernel
theorem dX9_readGrudge_145 : decode cX9_readGrudge 145 = .ok (.invokevirtual 35, 3) := by decide +kernel
theorem dX9_readGrudge_148 : decode cX9_readGrudge 148 = .ok (.ifCond .eq 24, 3) := by decide +kernel
theorem dX9_readGrudge_151 : decode cX9_readGrudge 151 = .ok (.aload_n 1, 1) := by decide +kernel
theorem dX9_readGrudge_152 : decode cX9_readGrudge 152 = .ok (.getfield 95, 3) := by decide +kernel
theorem dX9_readGrudge_155 : decode cX9_readGrudge 155 = .ok (.getfield 105, 3) := by decide +kernel
theorem dX9_readGrudge_158 : decode cX9_readGrudge 158 = .ok (.iload 5, 2) := by decide +kernel
theorem dX9_readGrudge_160 : decode cX9_readGrudge 160 = .ok (.aload_n 0, 1) := by decide +kernel
theorem dX9_readGrudge_161 : decode cX9_readGrudge 161 = .ok (.getfield 9, 3) := by decide +kernel
theorem dX9_readGrudge_164 : decode cX9_readGrudge 164 = .ok (.bipush 99, 2) := by decide +kernel
theorem dX9_readGrudge_166 : decode cX9_readGrudge 166 = .ok (.invokevirtual 54, 3) := by decide +kernel
theorem dX9_readGrudge_169 : decode cX9_readGrudge 169 = .ok (.invokestatic 58, 3) := by decide +kernel
theorem dX9_readGrudge_172 : decode cX9_readGrudge 172 = .ok (.aload_n 0, 1) := by decide +kernel
theorem dX9_readGrudge_173 : decode cX9_readGrudge 173 = .ok (.getfield 9, 3) := by decide +kernel
theorem dX9_readGrudge_176 : decode cX9_readGrudge 176 = .ok (.sipush 1020, 3) := by decide +kernel
theorem dX9_readGrudge_179 : decode cX9_readGrudge 179 = .ok (.invokevirtual 35, 3) := by decide +kernel
theorem dX9_readGrudge_182 : decode cX9_readGrudge 182 = .ok (.ifCond .eq 12, 3) := by decide +kernel
theorem dX9_readGrudge_185 : decode cX9_readGrudge 185 = .ok (.aload_n 1, 1) := by decide +kernel
theorem dX9_readGrudge_186 : decode cX9_readGrudge 186 = .ok (.getfield 95, 3) := by decide +kernel
theorem dX9_readGrudge_189 : decode cX9_readGrudge 189 = .ok (.iload 5, 2) := by decide +kernel
theorem dX9_readGrudge_191 : decode cX9_readGrudge 191 = .ok (.invokevirtual 108, 3) := by decide +kernel
theorem dX9_readGrudge_194 : decode cX9_readGrudge 194 = .ok (.return_, 1) := by decide +kernel
theorem dX10_init_0 : decode cX10_init 0 = .ok (.aload_n 0, 1) := by decide +kernel
theorem dX10_init_1 : decode cX10_init 1 = .ok (.invokespecial 3, 3) := by decide +kernel
theorem dX10_init_4 : decode cX10_init 4 = .ok (.aload_n 0, 1) := by decide +kernel
theorem dX10_init_5 : decode cX10_init 5 = .ok (.bipush 6, 2) := by decide +kernel
theorem dX10_init_7 : decode cX10_init 7 = .ok (.newarray .int, 2) := by decide +kernel
theorem dX10_init_9 : decode cX10_init 9 = .ok (.putfield 9, 3) := by decide +kernel
theorem dX10_init_12 : decode cX10_init 12 = .ok (.aload_n 0, 1) := by decide +kernel
theorem dX10_init_13 : decode cX10_init 13 = .ok (.bipush 6, 2) := by decide +kernel
theorem dX10_init_15 : decode cX10_init 15 = .ok (.newarray .int, 2) := by decide +kernel
theorem dX10_init_17 : decode cX10_init 17 = .ok (.putfield 15, 3) := by decide +kernel
theorem dX10_init_20 : decode cX10_init 20 = .ok (.aload_n 0, 1) := by decide +kernel
theorem dX10_init_21 : decode cX10_init 21 = .ok (.bipush 6, 2) := by decide +kernel
theorem dX10_init_23 : decode cX10_init 23 = .ok (.newarray .int, 2) := by decide +kernel
theorem dX10_init_25 : decode cX10_init 25 = .ok (.putfield 18, 3) := by decide +kernel
theorem dX10_init_28 : decode cX10_init 28 = .ok (.aload_n 0, 1) := by decide +kernel
theorem dX10_init_29 : decode cX10_init 29 = .ok (.bipush 6, 2) := by decide +kernel
theorem dX10_init_31 : decode cX10_init 31 = .ok (.newarray .int, 2) := by decide +kernel
theorem dX10_init_33 : decode cX10_init 33 = .ok (.putfield 21, 3) := by decide +kernel
theorem dX10_init_36 : decode cX10_init 36 = .ok (.aload_n 0, 1) := by decide +kernel
theorem dX10_init_37 : decode cX10_init 37 = .ok (.bipush 10, 2) := by decide +kernel
theorem dX10_init_39 : decode cX10_init 39 = .ok (.newarray .int, 2) := by decide +kernel
theorem dX10_init_41 : decode cX10_init 41 = .ok (.putfield 24, 3) := by decide +kernel
theorem dX10_init_44 : decode cX10_init 44 = .ok (.aload_n 0, 1) := by decide +kernel
theorem dX10_init_45 : decode cX10_init 45 = .ok (.iconst 0, 1) := by decide +kernel
theorem dX10_init_46 : decode cX10_init 46 = .ok (.putfield 27, 3) := by decide +kernel
theorem dX10_init_49 : decode cX10_init 49 = .ok (.aload_n 0, 1) := by decide +kernel
theorem dX10_init_50 : decode cX10_init 50 = .ok (.iconst 0, 1) := by decide +kernel
theorem dX10_init_51 : decode cX10_init 51 = .ok (.putfield 31, 3) := by decide +kernel
theorem dX10_init_54 : decode cX10_init 54 = .ok (.return_, 1) := by decide +kernel
theorem dX10_spin_0 : decode cX10_spin 0 = .ok (.aload_n 0, 1) := by decide +kernel
theorem dX10_spin_1 : decode cX10_spin 1 = .ok (.aload_n 1, 1) := by decide +kernel
theorem dX10_spin_2 : decode cX10_spin 2 = .ok (.getfield 34, 3) := by decide +kernel
theorem dX10_spin_5 : decode cX10_spin 5 = .ok (.getfield 39, 3) := by decide +kernel
theorem dX10_spin_8 : decode cX10_spin 8 = .ok (.putfield 27, 3) := by decide +kernel
theorem dX10_spin_11 : decode cX10_spin 11 = .ok (.iconst 0, 1) := by decide +kernel
theorem dX10_spin_12 : decode cX10_spin 12 = .ok (.istore_n 3, 1) := by decide +kernel
theorem dX10_spin_13 : decode cX10_spin 13 = .ok (.iload_n 3, 1) := by decide +kernel
theorem dX10_spin_14 : decode cX10_spin 14 = .ok (.bipush 6, 2) := by decide +kernel
theorem dX10_spin_16 : decode cX10_spin 16 = .ok (.if_icmp .ge 23, 3) := by decide +kernel
theorem dX10_spin_19 : decode cX10_spin 19 = .ok (.aload_n 0, 1) := by decide +kernel
theorem dX10_spin_20 : decode cX10_spin 20 = .ok (.getfield 9, 3) := by decide +kernel
theorem dX10_spin_23 : decode cX10_spin 23 = .ok (.iload_n 3, 1) := by decide +kernel
theorem dX10_spin_24 : decode cX10_spin 24 = .ok (.iconst 0, 1) := by decide +kernel
theorem dX10_spin_25 : decode cX10_spin 25 = .ok (.iastore, 1) := by decide +kernel
theorem dX10_spin_26 : decode cX10_spin 26 = .ok (.aload_n 0, 1) := by decide +kernel
theorem dX10_spin_27 : decode cX10_spin 27 = .ok (.getfield 15, 3) := by decide +kernel
theorem dX10_spin_30 : decode cX10_spin 30 = .ok (.iload_n 3, 1) := by decide +kernel
theorem dX10_spin_31 : decode cX10_spin 31 = .ok (.iconst 0, 1) := by decide +kernel
theorem dX10_spin_32 : decode cX10_spin 32 = .ok (.iastore, 1) := by decide +kernel
theorem dX10_spin_33 : decode cX10_spin 33 = .ok (.iinc 3 1, 3) := by decide +kernel
theorem dX10_spin_36 : decode cX10_spin 36 = .ok (.goto (-23), 3) := by decide +kernel
theorem dX10_spin_39 : decode cX10_spin 39 = .ok (.iconst 0, 1) := by decide +kernel
theorem dX10_spin_40 : decode cX10_spin 40 = .ok (.istore_n 3, 1) := by decide +kernel
theorem dX10_spin_41 : decode cX10_spin 41 = .ok (.iload_n 3, 1) := by decide +kernel
theorem dX10_spin_42 : decode cX10_spin 42 = .ok (.aload_n 1, 1) := by decide +kernel
theorem dX10_spin_43 : decode cX10_spin 43 = .ok (.getfield 44, 3) := by decide +kernel
theorem dX10_spin_46 : decode cX10_spin 46 = .ok (.getfield 48, 3) := by decide +kernel
theorem dX10_spin_49 : decode cX10_spin 49 = .ok (.if_icmp .ge 119, 3) := by decide +kernel
theorem dX10_spin_52 : decode cX10_spin 52 = .ok (.aload_n 1, 1) := by decide +kernel
theorem dX10_spin_53 : decode cX10_spin 53 = .ok (.getfield 44, 3) := by decide +kernel
theorem dX10_spin_56 : decode cX10_spin 56 = .ok (.iload_n 3, 1) := by decide +kernel
theorem dX10_spin_57 : decode cX10_spin 57 = .ok (.invokevirtual 51, 3) := by decide +kernel
theorem dX10_spin_60 : decode cX10_spin 60 = .ok (.ifCond .eq 102, 3) := by decide +kernel
theorem dX10_spin_63 : decode cX10_spin 63 = .ok (.iload_n 2, 1) := by decide +kernel
theorem dX10_spin_64 : decode cX10_spin 64 = .ok (.iload_n 3, 1) := by decide +kernel
theorem dX10_spin_65 : decode cX10_spin 65 = .ok (.invokestatic 55, 3) := by decide +kernel
theorem dX10_spin_68 : decode cX10_spin 68 = .ok (.ifCond .ne 94, 3) := by decide +kernel
theorem dX10_spin_71 : decode cX10_spin 71 = .ok (.aload_n 1, 1) := by decide +kernel
theorem dX10_spin_72 : decode cX10_spin 72 = .ok (.getfield 44, 3) := by decide +kernel
theorem dX10_spin_75 : decode cX10_spin 75 = .ok (.getfield 59, 3) := by decide +kernel
theorem dX10_spin_78 : decode cX10_spin 78 = .ok (.iload_n 3, 1) := by decide +kernel
theorem dX10_spin_79 : decode cX10_spin 79 = .ok (.iaload, 1) := by decide +kernel
theorem dX10_spin_80 : decode cX10_spin 80 = .ok (.istore 4, 2) := by decide +kernel
theorem dX10_spin_82 : decode cX10_spin 82 = .ok (.aload_n 1, 1) := by decide +kernel
theorem dX10_spin_83 : decode cX10_spin 83 = .ok (.getfield 44, 3) := by decide +kernel
theorem dX10_spin_86 : decode cX10_spin 86 = .ok (.getfield 62, 3) := by decide +kernel
theorem dX10_spin_89 : decode cX10_spin 89 = .ok (.iload_n 3, 1) := by decide +kernel
theorem dX10_spin_90 : decode cX10_spin 90 = .ok (.iaload, 1) := by decide +kernel
theorem dX10_spin_91 : decode cX10_spin 91 = .ok (.istore 5, 2) := by decide +kernel
theorem dX10_spin_93 : decode cX10_spin 93 = .ok (.aload_n 0, 1) := by decide +kernel
theorem dX10_spin_94 : decode cX10_spin 94 = .ok (.getfield 15, 3) := by decide +kernel
theorem dX10_spin_97 : decode cX10_spin 97 = .ok (.iload 4, 2) := by decide +kernel
theorem dX10_spin_99 : decode cX10_spin 99 = .ok (.aload_n 0, 1) := by decide +kernel
theorem dX10_spin_100 : decode cX10_spin 100 = .ok (.getfield 15, 3) := by decide +kernel
theorem dX10_spin_103 : decode cX10_spin 103 = .ok (.iload 4, 2) := by decide +kernel
theorem dX10_spin_105 : decode cX10_spin 105 = .ok (.invokestatic 65, 3) := by decide +kernel
theorem dX10_spin_108 : decode cX10_spin 108 = .ok (.iconst 1, 1) := by decide +kernel
theorem dX10_spin_109 : decode cX10_spin 109 = .ok (.iload 5, 2) := by decide +kernel
theorem dX10_spin_111 : decode cX10_spin 111 = .ok (.ishl, 1) := by decide +kernel
theorem dX10_spin_112 : decode cX10_spin 112 = .ok (.ior, 1) := by decide +kernel
theorem dX10_spin_113 : decode cX10_spin 113 = .ok (.invokestatic 69, 3) := by decide +kernel
theorem dX10_spin_116 : decode cX10_spin 116 = .ok (.aload_n 0, 1) := by decide +kernel
theorem dX10_spin_117 : decode cX10_spin 117 = .ok (.getfield 9, 3) := by decide +kernel
theorem dX10_spin_120 : decode cX10_spin 120 = .ok (.iload 4, 2) := by decide +kernel
theorem dX10_spin_122 : decode cX10_spin 122 = .ok (.aload_n 0, 1) := by decide +kernel
theorem dX10_spin_123 : decode cX10_spin 123 = .ok (.getfield 9, 3) := by decide +kernel
theorem dX10_spin_126 : decode cX10_spin 126 = .ok (.iload 4, 2) := by decide +kernel
theorem dX10_spin_128 : decode cX10_spin 128 = .ok (.invokestatic 65, 3) := by decide +kernel
theorem dX10_spin_131 : decode cX10_spin 131 = .ok (.iconst 1, 1) := by decide +kernel
theorem dX10_spin_132 : decode cX10_spin 132 = .ok (.iload 5, 2) := by decide +kernel
theorem dX10_spin_134 : decode cX10_spin 134 = .ok (.ishl, 1) := by decide +kernel
theorem dX10_spin_135 : decode cX10_spin 135 = .ok (.ior, 1) := by decide +kernel
theorem dX10_spin_136 : decode cX10_spin 136 = .ok (.invokestatic 69, 3) := by decide +kernel
theorem dX10_spin_139 : decode cX10_spin 139 = .ok (.aload_n 0, 1) := by decide +kernel
theorem dX10_spin_140 : decode cX10_spin 140 = .ok (.getfield 9, 3) := by decide +kernel
theorem dX10_spin_143 : decode cX10_spin 143 = .ok (.iload 5, 2) := by decide +kernel
theorem dX10_spin_145 : decode cX10_spin 145 = .ok (.aload_n 0, 1) := by decide +kernel
theorem dX10_spin_146 : decode cX10_spin 146 = .ok (.getfield 9, 3) := by decide +kernel
theorem dX10_spin_149 : decode cX10_spin 149 = .ok (.iload 5, 2) := by decide +kernel
theorem dX10_spin_151 : decode cX10_spin 151 = .ok (.invokestatic 65, 3) := by decide +kernel
theorem dX10_spin_154 : decode cX10_spin 154 = .ok (.iconst 1, 1) := by decide +kernel
theorem dX10_spin_155 : decode cX10_spin 155 = .ok (.iload 4, 2) := by decide +kernel
theorem dX10_spin_157 : decode cX10_spin 157 = .ok (.ishl, 1) := by decide +kernel
theorem dX10_spin_158 : decode cX10_spin 158 = .ok (.ior, 1) := by decide +kernel
theorem dX10_spin_159 : decode cX10_spin 159 = .ok (.invokestatic 69, 3) := by decide +kernel
theorem dX10_spin_162 : decode cX10_spin 162 = .ok (.iinc 3 1, 3) := by decide +kernel
theorem dX10_spin_165 : decode cX10_spin 165 = .ok (.goto (-124), 3) := by decide +kernel
theorem dX10_spin_168 : decode cX10_spin 168 = .ok (.return_, 1) := by decide +kernel
theorem dX10_wider_0 : decode cX10_wider 0 = .ok (.iload_n 2, 1) := by decide +kernel
theorem dX10_wider_1 : decode cX10_wider 1 = .ok (.istore_n 3, 1) := by decide +kernel
theorem dX10_wider_2 : decode cX10_wider 2 = .ok (.iconst 0, 1) := by decide +kernel
theorem dX10_wider_3 : decode cX10_wider 3 = .ok (.istore 4, 2) := by decide +kernel
theorem dX10_wider_5 : decode cX10_wider 5 = .ok (.iload 4, 2) := by decide +kernel
theorem dX10_wider_7 : decode cX10_wider 7 = .ok (.aload_n 0, 1) := by decide +kernel
theorem dX10_wider_8 : decode cX10_wider 8 = .ok (.getfield 27, 3) := by decide +kernel
theorem dX10_wider_11 : decode cX10_wider 11 = .ok (.if_icmp .ge 25, 3) := by decide +kernel
theorem dX10_wider_14 : decode cX10_wider 14 = .ok (.iload_n 2, 1) := by decide +kernel
theorem dX10_wider_15 : decode cX10_wider 15 = .ok (.iload 4, 2) := by decide +kernel
theorem dX10_wider_17 : decode cX10_wider 17 = .ok (.invokestatic 55, 3) := by decide +kernel
theorem dX10_wider_20 : decode cX10_wider 20 = .ok (.ifCond .eq 10, 3) := by decide +kernel
theorem dX10_wider_23 : decode cX10_wider 23 = .ok (.iload_n 3, 1) := by decide +kernel
theorem dX10_wider_24 : decode cX10_wider 24 = .ok (.aload_n 1, 1) := by decide +kernel
theorem dX10_wider_25 : decode cX10_wider 25 = .ok (.iload 4, 2) := by decide +kernel
theorem dX10_wider_27 : decode cX10_wider 27 = .ok (.iaload, 1) := by decide +kernel
theorem dX10_wider_28 : decode cX10_wider 28 = .ok (.ior, 1) := by decide +kernel
theorem dX10_wider_29 : decode cX10_wider 29 = .ok (.istore_n 3, 1) := by decide +kernel
theorem dX10_wider_30 : decode cX10_wider 30 = .ok (.iinc 4 1, 3) := by decide +kernel
theorem dX10_wider_33 : decode cX10_wider 33 = .ok (.goto (-28), 3) := by decide +kernel
theorem dX10_wider_36 : decode cX10_wider 36 = .ok (.iload_n 3, 1) := by decide +kernel
theorem dX10_wider_37 : decode cX10_wider 37 = .ok (.ireturn, 1) := by decide +kernel
theorem dX10_whole_0 : decode cX10_whole 0 = .ok (.iload_n 2, 1) := by decide +kernel
theorem dX10_whole_1 : decode cX10_whole 1 = .ok (.istore_n 3, 1) := by decide +kernel
theorem dX10_whole_2 : decode cX10_whole 2 = .ok (.iconst 0, 1) := by decide +kernel
theorem dX10_whole_3 : decode cX10_whole 3 = .ok (.istore 4, 2) := by decide +kernel
theorem dX10_whole_5 : decode cX10_whole 5 = .ok (.iload 4, 2) := by decide +kernel
theorem dX10_whole_7 : decode cX10_whole 7 = .ok (.aload_n 0, 1) := by decide +kernel
theorem dX10_whole_8 : decode cX10_whole 8 = .ok (.getfield 27, 3) := by decide +kernel
theorem dX10_whole_11 : decode cX10_whole 11 = .ok (.if_icmp .ge 16, 3) := by decide +kernel
theorem dX10_whole_14 : decode cX10_whole 14 = .ok (.aload_n 0, 1) := by decide +kernel
theorem dX10_whole_15 : decode cX10_whole 15 = .ok (.aload_n 1, 1) := by decide +kernel
theorem dX10_whole_16 : decode cX10_whole 16 = .ok (.iload_n 3, 1) := by decide +kernel
theorem dX10_whole_17 : decode cX10_whole 17 = .ok (.invokevirtual 73, 3) := by decide +kernel
theorem dX10_whole_20 : decode cX10_whole 20 = .ok (.istore_n 3, 1) := by decide +kernel
theorem dX10_whole_21 : decode cX10_whole 21 = .ok (.iinc 4 1, 3) := by decide +kernel
theorem dX10_whole_24 : decode cX10_whole 24 = .ok (.goto (-19), 3) := by decide +kernel
theorem dX10_whole_27 : decode cX10_whole 27 = .ok (.iload_n 3, 1) := by decide +kernel
theorem dX10_whole_28 : decode cX10_whole 28 = .ok (.ireturn, 1) := by decide +kernel
theorem dX10_distance_0 : decode cX10_distance 0 = .ok (.iconst 1, 1) := by decide +kernel
theorem dX10_distance_1 : decode cX10_distance 1 = .ok (.iload_n 1, 1) := by decide +kernel
theorem dX10_distance_2 : decode cX10_distance 2 = .ok (.ishl, 1) := by decide +kernel
theorem dX10_distance_3 : decode cX10_distance 3 = .ok (.istore_n 3, 1) := by decide +kernel
theorem dX10_distance_4 : decode cX10_distance 4 = .ok (.iconst 0, 1) := by decide +kernel
theorem dX10_distance_5 : decode cX10_distance 5 = .ok (.istore 4, 2) := by decide +kernel
theorem dX10_distance_7 : decode cX10_distance 7 = .ok (.iload 4, 2) := by decide +kernel
theorem dX10_distance_9 : decode cX10_distance 9 = .ok (.aload_n 0, 1) := by decide +kernel
theorem dX10_distance_10 : decode cX10_distance 10 = .ok (.getfield 27, 3) := by decide +kernel
theorem dX10_distance_13 : decode cX10_distance 13 = .ok (.if_icmp .ge 30, 3) := by decide +kernel
theorem dX10_distance_16 : decode cX10_distance 16 = .ok (.iload_n 3, 1) := by decide +kernel
theorem dX10_distance_17 : decode cX10_distance 17 = .ok (.iload_n 2, 1) := by decide +kernel
theorem dX10_distance_18 : decode cX10_distance 18 = .ok (.invokestatic 55, 3) := by decide +kernel
theorem dX10_distance_21 : decode cX10_distance 21 = .ok (.ifCond .eq 6, 3) := by decide +kernel
theorem dX10_distance_24 : decode cX10_distance 24 = .ok (.iload 4, 2) := by decide +kernel
theorem dX10_distance_26 : decode cX10_distance 26 = .ok (.ireturn, 1) := by decide +kernel
theorem dX10_distance_27 : decode cX10_distance 27 = .ok (.aload_n 0, 1) := by decide +kernel
theorem dX10_distance_28 : decode cX10_distance 28 = .ok (.aload_n 0, 1) := by decide +kernel
theorem dX10_distance_29 : decode cX10_distance 29 = .ok (.getfield 9, 3) := by decide +kernel
theorem dX10_distance_32 : decode cX10_distance 32 = .ok (.iload_n 3, 1) := by decide +kernel
theorem dX10_distance_33 : decode cX10_distance 33 = .ok (.invokevirtual 73, 3) := by decide +kernel
theorem dX10_distance_36 : decode cX10_distance 36 = .ok (.istore_n 3, 1) := by decide +kernel
theorem dX10_distance_37 : decode cX10_distance 37 = .ok (.iinc 4 1, 3) := by decide +kernel
theorem dX10_distance_40 : decode cX10_distance 40 = .ok (.goto (-33), 3) := by decide +kernel
theorem dX10_distance_43 : decode cX10_distance 43 = .ok (.iconst (-1), 1) := by decide +kernel
theorem dX10_distance_44 : decode cX10_distance 44 = .ok (.ireturn, 1) := by decide +kernel
theorem dX10_comesBack_0 : decode cX10_comesBack 0 = .ok (.aload_n 0, 1) := by decide +kernel
theorem dX10_comesBack_1 : decode cX10_comesBack 1 = .ok (.aload_n 0, 1) := by decide +kernel
theorem dX10_comesBack_2 : decode cX10_comesBack 2 = .ok (.getfield 15, 3) := by decide +kernel
theorem dX10_comesBack_5 : decode cX10_comesBack 5 = .ok (.aload_n 0, 1) := by decide +kernel
theorem dX10_comesBack_6 : decode cX10_comesBack 6 = .ok (.getfield 15, 3) := by decide +kernel
theorem dX10_comesBack_9 : decode cX10_comesBack 9 = .ok (.iload_n 1, 1) := by decide +kernel
theorem dX10_comesBack_10 : decode cX10_comesBack 10 = .ok (.invokestatic 65, 3) := by decide +kernel
theorem dX10_comesBack_13 : decode cX10_comesBack 13 = .ok (.invokevirtual 76, 3) := by decide +kernel
theorem dX10_comesBack_16 : decode cX10_comesBack 16 = .ok (.iload_n 1, 1) := by decide +kernel
theorem dX10_comesBack_17 : decode cX10_comesBack 17 = .ok (.invokestatic 55, 3) := by decide +kernel
theorem dX10_comesBack_20 : decode cX10_comesBack 20 = .ok (.ireturn, 1) := by decide +kernel
theorem dX10_greatestFeud_0 : decode cX10_greatestFeud 0 = .ok (.iconst 0, 1) := by decide +kernel
theorem dX10_greatestFeud_1 : decode cX10_greatestFeud 1 = .ok (.istore_n 1, 1) := by decide +kernel
theorem dX10_greatestFeud_2 : decode cX10_greatestFeud 2 = .ok (.iconst 0, 1) := by decide +kernel
theorem dX10_greatestFeud_3 : decode cX10_greatestFeud 3 = .ok (.istore_n 2, 1) := by decide +kernel
theorem dX10_greatestFeud_4 : decode cX10_greatestFeud 4 = .ok (.iload_n 2, 1) := by decide +kernel
theorem dX10_greatestFeud_5 : decode cX10_greatestFeud 5 = .ok (.aload_n 0, 1) := by decide +kernel
theorem dX10_greatestFeud_6 : decode cX10_greatestFeud 6 = .ok (.getfield 27, 3) := by decide +kernel
theorem dX10_greatestFeud_9 : decode cX10_greatestFeud 9 = .ok (.if_icmp .ge 28, 3) := by decide +kernel
theorem dX10_greatestFeud_12 : decode cX10_greatestFeud 12 = .ok (.iload_n 1, 1) := by decide +kernel
theorem dX10_greatestFeud_13 : decode cX10_greatestFeud 13 = .ok (.aload_n 0, 1) := by decide +kernel
theorem dX10_greatestFeud_14 : decode cX10_greatestFeud 14 = .ok (.aload_n 0, 1) := by decide +kernel
theorem dX10_greatestFeud_15 : decode cX10_greatestFeud 15 = .ok (.getfield 9, 3) := by decide +kernel
theorem dX10_greatestFeud_18 : decode cX10_greatestFeud 18 = .ok (.iconst 1, 1) := by decide +kernel
theorem dX10_greatestFeud_19 : decode cX10_greatestFeud 19 = .ok (.iload_n 2, 1) := by decide +kernel
theorem dX10_greatestFeud_20 : decode cX10_greatestFeud 20 = .ok (.ishl, 1) := by decide +kernel
theorem dX10_greatestFeud_21 : decode cX10_greatestFeud 21 = .ok (.invokevirtual 76, 3) := by decide +kernel
theorem dX10_greatestFeud_24 : decode cX10_greatestFeud 24 = .ok (.invokestatic 79, 3) := by decide +kernel
theorem dX10_greatestFeud_27 : decode cX10_greatestFeud 27 = .ok (.invokestatic 85, 3) := by decide +kernel
theorem dX10_greatestFeud_30 : decode cX10_greatestFeud 30 = .ok (.istore_n 1, 1) := by decide +kernel
theorem dX10_greatestFeud_31 : decode cX10_greatestFeud 31 = .ok (.iinc 2 1, 3) := by decide +kernel
theorem dX10_greatestFeud_34 : decode cX10_greatestFeud 34 = .ok (.goto (-30), 3) := by decide +kernel
theorem dX10_greatestFeud_37 : decode cX10_greatestFeud 37 = .ok (.iload_n 1, 1) := by decide +kernel
theorem dX10_greatestFeud_38 : decode cX10_greatestFeud 38 = .ok (.ireturn, 1) := by decide +kernel
theorem dX10_strangers_0 : decode cX10_strangers 0 = .ok (.iconst 0, 1) := by decide +kernel
theorem dX10_strangers_1 : decode cX10_strangers 1 = .ok (.istore_n 1, 1) := by decide +kernel
theorem dX10_strangers_2 : decode cX10_strangers 2 = .ok (.iconst 0, 1) := by decide +kernel
theorem dX10_strangers_3 : decode cX10_strangers 3 = .ok (.istore_n 2, 1) := by decide +kernel
theorem dX10_strangers_4 : decode cX10_strangers 4 = .ok (.iload_n 2, 1) := by decide +kernel
theorem dX10_strangers_5 : decode cX10_strangers 5 = .ok (.aload_n 0, 1) := by decide +kernel
theorem dX10_strangers_6 : decode cX10_strangers 6 = .ok (.getfield 27, 3) := by decide +kernel
theorem dX10_strangers_9 : decode cX10_strangers 9 = .ok (.if_icmp .ge 21, 3) := by decide +kernel
theorem dX10_strangers_12 : decode cX10_strangers 12 = .ok (.iload_n 1, 1) := by decide +kernel
theorem dX10_strangers_13 : decode cX10_strangers 13 = .ok (.aload_n 0, 1) := by decide +kernel
theorem dX10_strangers_14 : decode cX10_strangers 14 = .ok (.getfield 9, 3) := by decide +kernel
theorem dX10_strangers_17 : decode cX10_strangers 17 = .ok (.iload_n 2, 1) := by decide +kernel
theorem dX10_strangers_18 : decode cX10_strangers 18 = .ok (.iaload, 1) := by decide +kernel
theorem dX10_strangers_19 : decode cX10_strangers 19 = .ok (.invokestatic 79, 3) := by decide +kernel
theorem dX10_strangers_22 : decode cX10_strangers 22 = .ok (.iadd, 1) := by decide +kernel
theorem dX10_strangers_23 : decode cX10_strangers 23 = .ok (.istore_n 1, 1) := by decide +kernel
theorem dX10_strangers_24 : decode cX10_strangers 24 = .ok (.iinc 2 1, 3) := by decide +kernel
theorem dX10_strangers_27 : decode cX10_strangers 27 = .ok (.goto (-23), 3) := by decide +kernel
theorem dX10_strangers_30 : decode cX10_strangers 30 = .ok (.aload_n 0, 1) := by decide +kernel
theorem dX10_strangers_31 : decode cX10_strangers 31 = .ok (.getfield 27, 3) := by decide +kernel
theorem dX10_strangers_34 : decode cX10_strangers 34 = .ok (.aload_n 0, 1) := by decide +kernel
theorem dX10_strangers_35 : decode cX10_strangers 35 = .ok (.getfield 27, 3) := by decide +kernel
theorem dX10_strangers_38 : decode cX10_strangers 38 = .ok (.iconst 1, 1) := by decide +kernel
theorem dX10_strangers_39 : decode cX10_strangers 39 = .ok (.isub, 1) := by decide +kernel
theorem dX10_strangers_40 : decode cX10_strangers 40 = .ok (.imul, 1) := by decide +kernel
theorem dX10_strangers_41 : decode cX10_strangers 41 = .ok (.iload_n 1, 1) := by decide +kernel
theorem dX10_strangers_42 : decode cX10_strangers 42 = .ok (.isub, 1) := by decide +kernel
theorem dX10_strangers_43 : decode cX10_strangers 43 = .ok (.iconst 2, 1) := by decide +kernel
theorem dX10_strangers_44 : decode cX10_strangers 44 = .ok (.idiv, 1) := by decide +kernel
theorem dX10_strangers_45 : decode cX10_strangers 45 = .ok (.ireturn, 1) := by decide +kernel
theorem dX10_bestThaw_0 : decode cX10_bestThaw 0 = .ok (.aload_n 0, 1) := by decide +kernel
theorem dX10_bestThaw_1 : decode cX10_bestThaw 1 = .ok (.aload_n 1, 1) := by decide +kernel
theorem dX10_bestThaw_2 : decode cX10_bestThaw 2 = .ok (.getfield 44, 3) := by decide +kernel
theorem dX10_bestThaw_5 : decode cX10_bestThaw 5 = .ok (.invokevirtual 91, 3) := by decide +kernel
theorem dX10_bestThaw_8 : decode cX10_bestThaw 8 = .ok (.aload_n 1, 1) := by decide +kernel
theorem dX10_bestThaw_9 : decode cX10_bestThaw 9 = .ok (.getfield 44, 3) := by decide +kernel
theorem dX10_bestThaw_12 : decode cX10_bestThaw 12 = .ok (.invokevirtual 95, 3) := by decide +kernel
theorem dX10_bestThaw_15 : decode cX10_bestThaw 15 = .ok (.istore_n 3, 1) := by decide +kernel
theorem dX10_bestThaw_16 : decode cX10_bestThaw 16 = .ok (.iconst (-1), 1) := by decide +kernel
theorem dX10_bestThaw_17 : decode cX10_bestThaw 17 = .ok (.istore 4, 2) := by decide +kernel
theorem dX10_bestThaw_19 : decode cX10_bestThaw 19 = .ok (.bipush 16, 2) := by decide +kernel
theorem dX10_bestThaw_21 : decode cX10_bestThaw 21 = .ok (.istore 5, 2) := by decide +kernel
theorem dX10_bestThaw_23 : decode cX10_bestThaw 23 = .ok (.iconst 0, 1) := by decide +kernel
theorem dX10_bestThaw_24 : decode cX10_bestThaw 24 = .ok (.istore 6, 2) := by decide +kernel
theorem dX10_bestThaw_26 : decode cX10_bestThaw 26 = .ok (.iload 6, 2) := by decide +kernel
theorem dX10_bestThaw_28 : decode cX10_bestThaw 28 = .ok (.iload_n 3, 1) := by decide +kernel
theorem dX10_bestThaw_29 : decode cX10_bestThaw 29 = .ok (.if_icmp .gt 84, 3) := by decide +kernel
theorem dX10_bestThaw_32 : decode cX10_bestThaw 32 = .ok (.iload 6, 2) := by decide +kernel
theorem dX10_bestThaw_34 : decode cX10_bestThaw 34 = .ok (.iload_n 3, 1) := by decide +kernel
theorem dX10_bestThaw_35 : decode cX10_bestThaw 35 = .ok (.iconst (-1), 1) := by decide +kernel
theorem dX10_bestThaw_36 : decode cX10_bestThaw 36 = .ok (.ixor, 1) := by decide +kernel
theorem dX10_bestThaw_37 : decode cX10_bestThaw 37 = .ok (.iand, 1) := by decide +kernel
theorem dX10_bestThaw_38 : decode cX10_bestThaw 38 = .ok (.ifCond .ne 69, 3) := by decide +kernel
theorem dX10_bestThaw_41 : decode cX10_bestThaw 41 = .ok (.aload_n 0, 1) := by decide +kernel
theorem dX10_bestThaw_42 : decode cX10_bestThaw 42 = .ok (.aload_n 1, 1) := by decide +kernel
theorem dX10_bestThaw_43 : decode cX10_bestThaw 43 = .ok (.getfield 44, 3) := by decide +kernel
theorem dX10_bestThaw_46 : decode cX10_bestThaw 46 = .ok (.iload 6, 2) := by decide +kernel
theorem dX10_bestThaw_48 : decode cX10_bestThaw 48 = .ok (.iload_n 2, 1) := by decide +kernel
theorem dX10_bestThaw_49 : decode cX10_bestThaw 49 = .ok (.invokevirtual 99, 3) := by decide +kernel
theorem dX10_bestThaw_52 : decode cX10_bestThaw 52 = .ok (.istore 7, 2) := by decide +kernel
theorem dX10_bestThaw_54 : decode cX10_bestThaw 54 = .ok (.iload 6, 2) := by decide +kernel
theorem dX10_bestThaw_56 : decode cX10_bestThaw 56 = .ok (.invokestatic 79, 3) := by decide +kernel
theorem dX10_bestThaw_59 : decode cX10_bestThaw 59 = .ok (.iload 4, 2) := by decide +kernel
theorem dX10_bestThaw_61 : decode cX10_bestThaw 61 = .ok (.invokestatic 79, 3) := by decide +kernel
theorem dX10_bestThaw_64 : decode cX10_bestThaw 64 = .ok (.if_icmp .ge 7, 3) := by decide +kernel
theorem dX10_bestThaw_67 : decode cX10_bestThaw 67 = .ok (.iconst 1, 1) := by decide +kernel
theorem dX10_bestThaw_68 : decode cX10_bestThaw 68 = .ok (.goto 4, 3) := by decide +kernel
theorem dX10_bestThaw_71 : decode cX10_bestThaw 71 = .ok (.iconst 0, 1) := by decide +kernel
theorem dX10_bestThaw_72 : decode cX10_bestThaw 72 = .ok (.istore 8, 2) := by decide +kernel
theorem dX10_bestThaw_74 : decode cX10_bestThaw 74 = .ok (.iload 7, 2) := by decide +kernel
theorem dX10_bestThaw_76 : decode cX10_bestThaw 76 = .ok (.iload 5, 2) := by decide +kernel
theorem dX10_bestThaw_78 : decode cX10_bestThaw 78 = .ok (.if_icmp .lt 21, 3) := by decide +kernel
theorem dX10_bestThaw_81 : decode cX10_bestThaw 81 = .ok (.iload 7, 2) := by decide +kernel
theorem dX10_bestThaw_83 : decode cX10_bestThaw 83 = .ok (.iload 5, 2) := by decide +kernel
theorem dX10_bestThaw_85 : decode cX10_bestThaw 85 = .ok (.if_icmp .ne 22, 3) := by decide +kernel
theorem dX10_bestThaw_88 : decode cX10_bestThaw 88 = .ok (.iload 8, 2) := by decide +kernel
theorem dX10_bestThaw_90 : decode cX10_bestThaw 90 = .ok (.ifCond .eq 17, 3) := by decide +kernel
theorem dX10_bestThaw_93 : decode cX10_bestThaw 93 = .ok (.iload 4, 2) := by decide +kernel
theorem dX10_bestThaw_95 : decode cX10_bestThaw 95 = .ok (.iconst (-1), 1) := by decide +kernel
theorem dX10_bestThaw_96 : decode cX10_bestThaw 96 = .ok (.if_icmp .eq 11, 3) := by decide +kernel
theorem dX10_bestThaw_99 : decode cX10_bestThaw 99 = .ok (.iload 7, 2) := by decide +kernel
theorem dX10_bestThaw_101 : decode cX10_bestThaw 101 = .ok (.istore 5, 2) := by decide +kernel
theorem dX10_bestThaw_103 : decode cX10_bestThaw 103 = .ok (.iload 6, 2) := by decide +kernel
theorem dX10_bestThaw_105 : decode cX10_bestThaw 105 = .ok (.istore 4, 2) := by decide +kernel
theorem dX10_bestThaw_107 : decode cX10_bestThaw 107 = .ok (.iinc 6 1, 3) := by decide +kernel
theorem dX10_bestThaw_110 : decode cX10_bestThaw 110 = .ok (.goto (-84), 3) := by decide +kernel
theorem dX10_bestThaw_113 : decode cX10_bestThaw 113 = .ok (.iload 4, 2) := by decide +kernel
theorem dX10_bestThaw_115 : decode cX10_bestThaw 115 = .ok (.ireturn, 1) := by decide +kernel
theorem dX10_tellPairs_0 : decode cX10_tellPairs 0 = .ok (.iconst 0, 1) := by decide +kernel
theorem dX10_tellPairs_1 : decode cX10_tellPairs 1 = .ok (.istore_n 2, 1) := by decide +kernel
theorem dX10_tellPairs_2 : decode cX10_tellPairs 2 = .ok (.iload_n 2, 1) := by decide +kernel
theorem dX10_tellPairs_3 : decode cX10_tellPairs 3 = .ok (.bipush 10, 2) := by decide +kernel
theorem dX10_tellPairs_5 : decode cX10_tellPairs 5 = .ok (.if_icmp .ge 72, 3) := by decide +kernel
theorem dX10_tellPairs_8 : decode cX10_tellPairs 8 = .ok (.aload_n 1, 1) := by decide +kernel
theorem dX10_tellPairs_9 : decode cX10_tellPairs 9 = .ok (.getfield 59, 3) := by decide +kernel
theorem dX10_tellPairs_12 : decode cX10_tellPairs 12 = .ok (.iload_n 2, 1) := by decide +kernel
theorem dX10_tellPairs_13 : decode cX10_tellPairs 13 = .ok (.iaload, 1) := by decide +kernel
theorem dX10_tellPairs_14 : decode cX10_tellPairs 14 = .ok (.aload_n 1, 1) := by decide +kernel
theorem dX10_tellPairs_15 : decode cX10_tellPairs 15 = .ok (.getfield 62, 3) := by decide +kernel
theorem dX10_tellPairs_18 : decode cX10_tellPairs 18 = .ok (.iload_n 2, 1) := by decide +kernel
theorem dX10_tellPairs_19 : decode cX10_tellPairs 19 = .ok (.iaload, 1) := by decide +kernel
theorem dX10_tellPairs_20 : decode cX10_tellPairs 20 = .ok (.invokestatic 85, 3) := by decide +kernel
theorem dX10_tellPairs_23 : decode cX10_tellPairs 23 = .ok (.istore_n 3, 1) := by decide +kernel
theorem dX10_tellPairs_24 : decode cX10_tellPairs 24 = .ok (.aload_n 1, 1) := by decide +kernel
theorem dX10_tellPairs_25 : decode cX10_tellPairs 25 = .ok (.getfield 59, 3) := by decide +kernel
theorem dX10_tellPairs_28 : decode cX10_tellPairs 28 = .ok (.iload_n 2, 1) := by decide +kernel
theorem dX10_tellPairs_29 : decode cX10_tellPairs 29 = .ok (.iaload, 1) := by decide +kernel
theorem dX10_tellPairs_30 : decode cX10_tellPairs 30 = .ok (.aload_n 1, 1) := by decide +kernel
theorem dX10_tellPairs_31 : decode cX10_tellPairs 31 = .ok (.getfield 62, 3) := by decide +kernel
theorem dX10_tellPairs_34 : decode cX10_tellPairs 34 = .ok (.iload_n 2, 1) := by decide +kernel
theorem dX10_tellPairs_35 : decode cX10_tellPairs 35 = .ok (.iaload, 1) := by decide +kernel
theorem dX10_tellPairs_36 : decode cX10_tellPairs 36 = .ok (.invokestatic 103, 3) := by decide +kernel
theorem dX10_tellPairs_39 : decode cX10_tellPairs 39 = .ok (.istore 4, 2) := by decide +kernel
theorem dX10_tellPairs_41 : decode cX10_tellPairs 41 = .ok (.aload_n 0, 1) := by decide +kernel
theorem dX10_tellPairs_42 : decode cX10_tellPairs 42 = .ok (.getfield 24, 3) := by decide +kernel
theorem dX10_tellPairs_45 : decode cX10_tellPairs 45 = .ok (.iload_n 2, 1) := by decide +kernel
theorem dX10_tellPairs_46 : decode cX10_tellPairs 46 = .ok (.aload_n 1, 1) := by decide +kernel
theorem dX10_tellPairs_47 : decode cX10_tellPairs 47 = .ok (.iload_n 2, 1) := by decide +kernel
theorem dX10_tellPairs_48 : decode cX10_tellPairs 48 = .ok (.invokevirtual 51, 3) := by decide +kernel
theorem dX10_tellPairs_51 : decode cX10_tellPairs 51 = .ok (.ifCond .eq 18, 3) := by decide +kernel
theorem dX10_tellPairs_54 : decode cX10_tellPairs 54 = .ok (.iconst 1, 1) := by decide +kernel
theorem dX10_tellPairs_55 : decode cX10_tellPairs 55 = .ok (.iload_n 3, 1) := by decide +kernel
theorem dX10_tellPairs_56 : decode cX10_tellPairs 56 = .ok (.iload_n 3, 1) := by decide +kernel
theorem dX10_tellPairs_57 : decode cX10_tellPairs 57 = .ok (.iconst 1, 1) := by decide +kernel
theorem dX10_tellPairs_58 : decode cX10_tellPairs 58 = .ok (.isub, 1) := by decide +kernel
theorem dX10_tellPairs_59 : decode cX10_tellPairs 59 = .ok (.imul, 1) := by decide +kernel
theorem dX10_tellPairs_60 : decode cX10_tellPairs 60 = .ok (.iconst 2, 1) := by decide +kernel
theorem dX10_tellPairs_61 : decode cX10_tellPairs 61 = .ok (.idiv, 1) := by decide +kernel
theorem dX10_tellPairs_62 : decode cX10_tellPairs 62 = .ok (.iload 4, 2) := by decide +kernel
theorem dX10_tellPairs_64 : decode cX10_tellPairs 64 = .ok (.iadd, 1) := by decide +kernel
theorem dX10_tellPairs_65 : decode cX10_tellPairs 65 = .ok (.ishl, 1) := by decide +kernel
theorem dX10_tellPairs_66 : decode cX10_tellPairs 66 = .ok (.goto 4, 3) := by decide +kernel
theorem dX10_tellPairs_69 : decode cX10_tellPairs 69 = .ok (.iconst 0, 1) := by decide +kernel
theorem dX10_tellPairs_70 : decode cX10_tellPairs 70 = .ok (.iastore, 1) := by decide +kernel
theorem dX10_tellPairs_71 : decode cX10_tellPairs 71 = .ok (.iinc 2 1, 3) := by decide +kernel
theorem dX10_tellPairs_74 : decode cX10_tellPairs 74 = .ok (.goto (-72), 3) := by decide +kernel
theorem dX10_tellPairs_77 : decode cX10_tellPairs 77 = .ok (.return_, 1) := by decide +kernel
theorem dX10_linkedWithout_0 : decode cX10_linkedWithout 0 = .ok (.iconst 0, 1) := by decide +kernel
theorem dX10_linkedWithout_1 : decode cX10_linkedWithout 1 = .ok (.istore 4, 2) := by decide +kernel
theorem dX10_linkedWithout_3 : decode cX10_linkedWithout 3 = .ok (.iconst 0, 1) := by decide +kernel
theorem dX10_linkedWithout_4 : decode cX10_linkedWithout 4 = .ok (.istore 5, 2) := by decide +kernel
theorem dX10_linkedWithout_6 : decode cX10_linkedWithout 6 = .ok (.iconst 0, 1) := by decide +kernel
theorem dX10_linkedWithout_7 : decode cX10_linkedWithout 7 = .ok (.istore 6, 2) := by decide +kernel
theorem dX10_linkedWithout_9 : decode cX10_linkedWithout 9 = .ok (.iload 6, 2) := by decide +kernel
theorem dX10_linkedWithout_11 : decode cX10_linkedWithout 11 = .ok (.bipush 10, 2) := by decide +kernel
theorem dX10_linkedWithout_13 : decode cX10_linkedWithout 13 = .ok (.if_icmp .ge 52, 3) := by decide +kernel
theorem dX10_linkedWithout_16 : decode cX10_linkedWithout 16 = .ok (.aload_n 0, 1) := by decide +kernel
theorem dX10_linkedWithout_17 : decode cX10_linkedWithout 17 = .ok (.getfield 24, 3) := by decide +kernel
theorem dX10_linkedWithout_20 : decode cX10_linkedWithout 20 = .ok (.iload 6, 2) := by decide +kernel
theorem dX10_linkedWithout_22 : decode cX10_linkedWithout 22 = .ok (.iaload, 1) := by decide +kernel
theorem dX10_linkedWithout_23 : decode cX10_linkedWithout 23 = .ok (.ifCond .eq 36, 3) := by decide +kernel
theorem dX10_linkedWithout_26 : decode cX10_linkedWithout 26 = .ok (.iload_n 2, 1) := by decide +kernel
theorem dX10_linkedWithout_27 : decode cX10_linkedWithout 27 = .ok (.iload 6, 2) := by decide +kernel
theorem dX10_linkedWithout_29 : decode cX10_linkedWithout 29 = .ok (.invokestatic 55, 3) := by decide +kernel
theorem dX10_linkedWithout_32 : decode cX10_linkedWithout 32 = .ok (.ifCond .ne 27, 3) := by decide +kernel
theorem dX10_linkedWithout_35 : decode cX10_linkedWithout 35 = .ok (.iload 4, 2) := by decide +kernel
theorem dX10_linkedWithout_37 : decode cX10_linkedWithout 37 = .ok (.aload_n 1, 1) := by decide +kernel
theorem dX10_linkedWithout_38 : decode cX10_linkedWithout 38 = .ok (.getfield 106, 3) := by decide +kernel
theorem dX10_linkedWithout_41 : decode cX10_linkedWithout 41 = .ok (.iload 6, 2) := by decide +kernel
theorem dX10_linkedWithout_43 : decode cX10_linkedWithout 43 = .ok (.iaload, 1) := by decide +kernel
theorem dX10_linkedWithout_44 : decode cX10_linkedWithout 44 = .ok (.iadd, 1) := by decide +kernel
theorem dX10_linkedWithout_45 : decode cX10_linkedWithout 45 = .ok (.istore 4, 2) := by decide +kernel
theorem dX10_linkedWithout_47 : decode cX10_linkedWithout 47 = .ok (.iload 5, 2) := by decide +kernel
theorem dX10_linkedWithout_49 : decode cX10_linkedWithout 49 = .ok (.aload_n 0, 1) := by decide +kernel
theorem dX10_linkedWithout_50 : decode cX10_linkedWithout 50 = .ok (.getfield 24, 3) := by decide +kernel
theorem dX10_linkedWithout_53 : decode cX10_linkedWithout 53 = .ok (.iload 6, 2) := by decide +kernel
theorem dX10_linkedWithout_55 : decode cX10_linkedWithout 55 = .ok (.iaload, 1) := by decide +kernel
theorem dX10_linkedWithout_56 : decode cX10_linkedWithout 56 = .ok (.ior, 1) := by decide +kernel
theorem dX10_linkedWithout_57 : decode cX10_linkedWithout 57 = .ok (.istore 5, 2) := by decide +kernel
theorem dX10_linkedWithout_59 : decode cX10_linkedWithout 59 = .ok (.iinc 6 1, 3) := by decide +kernel
theorem dX10_linkedWithout_62 : decode cX10_linkedWithout 62 = .ok (.goto (-53), 3) := by decide +kernel
theorem dX10_linkedWithout_65 : decode cX10_linkedWithout 65 = .ok (.iload 4, 2) := by decide +kernel
theorem dX10_linkedWithout_67 : decode cX10_linkedWithout 67 = .ok (.iload_n 3, 1) := by decide +kernel
theorem dX10_linkedWithout_68 : decode cX10_linkedWithout 68 = .ok (.if_icmp .lt 11, 3) := by decide +kernel
theorem dX10_linkedWithout_71 : decode cX10_linkedWithout 71 = .ok (.iload 5, 2) := by decide +kernel
theorem dX10_linkedWithout_73 : decode cX10_linkedWithout 73 = .ok (.invokestatic 79, 3) := by decide +kernel
theorem dX10_linkedWithout_76 : decode cX10_linkedWithout 76 = .ok (.goto 5, 3) := by decide +kernel
theorem dX10_linkedWithout_79 : decode cX10_linkedWithout 79 = .ok (.bipush 16, 2) := by decide +kernel
theorem dX10_linkedWithout_81 : decode cX10_linkedWithout 81 = .ok (.ireturn, 1) := by decide +kernel
theorem dX10_findPairs_0 : decode cX10_findPairs 0 = .ok (.aload_n 0, 1) := by decide +kernel
theorem dX10_findPairs_1 : decode cX10_findPairs 1 = .ok (.iconst (-1), 1) := by decide +kernel
theorem dX10_findPairs_2 : decode cX10_findPairs 2 = .ok (.putfield 31, 3) := by decide +kernel
theorem dX10_findPairs_5 : decode cX10_findPairs 5 = .ok (.iconst 0, 1) := by decide +kernel
theorem dX10_findPairs_6 : decode cX10_findPairs 6 = .ok (.istore_n 2, 1) := by decide +kernel
theorem dX10_findPairs_7 : decode cX10_findPairs 7 = .ok (.iload_n 2, 1) := by decide +kernel
theorem dX10_findPairs_8 : decode cX10_findPairs 8 = .ok (.bipush 6, 2) := by decide +kernel
theorem dX10_findPairs_10 : decode cX10_findPairs 10 = .ok (.if_icmp .ge 16, 3) := by decide +kernel
theorem dX10_findPairs_13 : decode cX10_findPairs 13 = .ok (.aload_n 0, 1) := by decide +kernel
theorem dX10_findPairs_14 : decode cX10_findPairs 14 = .ok (.getfield 18, 3) := by decide +kernel
theorem dX10_findPairs_17 : decode cX10_findPairs 17 = .ok (.iload_n 2, 1) := by decide +kernel
theorem dX10_findPairs_18 : decode cX10_findPairs 18 = .ok (.iconst (-1), 1) := by decide +kernel
theorem dX10_findPairs_19 : decode cX10_findPairs 19 = .ok (.iastore, 1) := by decide +kernel
theorem dX10_findPairs_20 : decode cX10_findPairs 20 = .ok (.iinc 2 1, 3) := by decide +kernel
theorem dX10_findPairs_23 : decode cX10_findPairs 23 = .ok (.goto (-16), 3) := by decide +kernel
theorem dX10_findPairs_26 : decode cX10_findPairs 26 = .ok (.aload_n 0, 1) := by decide +kernel
theorem dX10_findPairs_27 : decode cX10_findPairs 27 = .ok (.aload_n 1, 1) := by decide +kernel
theorem dX10_findPairs_28 : decode cX10_findPairs 28 = .ok (.iconst 0, 1) := by decide +kernel
theorem dX10_findPairs_29 : decode cX10_findPairs 29 = .ok (.iconst 0, 1) := by decide +kernel
theorem dX10_findPairs_30 : decode cX10_findPairs 30 = .ok (.invokestatic 109, 3) := by decide +kernel
theorem dX10_findPairs_33 : decode cX10_findPairs 33 = .ok (.return_, 1) := by decide +kernel
theorem dX10_pair_0 : decode cX10_pair 0 = .ok (.iload_n 2, 1) := by decide +kernel
theorem dX10_pair_1 : decode cX10_pair 1 = .ok (.ifCond .lt 17, 3) := by decide +kernel
theorem dX10_pair_4 : decode cX10_pair 4 = .ok (.iload_n 2, 1) := by decide +kernel
theorem dX10_pair_5 : decode cX10_pair 5 = .ok (.aload_n 0, 1) := by decide +kernel
theorem dX10_pair_6 : decode cX10_pair 6 = .ok (.getfield 27, 3) := by decide +kernel
theorem dX10_pair_9 : decode cX10_pair 9 = .ok (.if_icmp .ge 9, 3) := by decide +kernel
theorem dX10_pair_12 : decode cX10_pair 12 = .ok (.iload_n 2, 1) := by decide +kernel
theorem dX10_pair_13 : decode cX10_pair 13 = .ok (.bipush 6, 2) := by decide +kernel
theorem dX10_pair_15 : decode cX10_pair 15 = .ok (.if_icmp .lt 28, 3) := by decide +kernel
theorem dX10_pair_18 : decode cX10_pair 18 = .ok (.iload_n 3, 1) := by decide +kernel
theorem dX10_pair_19 : decode cX10_pair 19 = .ok (.aload_n 0, 1) := by decide +kernel
theorem dX10_pair_20 : decode cX10_pair 20 = .ok (.getfield 31, 3) := by decide +kernel
theorem dX10_pair_23 : decode cX10_pair 23 = .ok (.if_icmp .le 19, 3) := by decide +kernel
theorem dX10_pair_26 : decode cX10_pair 26 = .ok (.aload_n 0, 1) := by decide +kernel
theorem dX10_pair_27 : decode cX10_pair 27 = .ok (.iload_n 3, 1) := by decide +kernel
theorem dX10_pair_28 : decode cX10_pair 28 = .ok (.putfield 31, 3) := by decide +kernel
theorem dX10_pair_31 : decode cX10_pair 31 = .ok (.aload_n 0, 1) := by decide +kernel
theorem dX10_pair_32 : decode cX10_pair 32 = .ok (.getfield 18, 3) := by decide +kernel
theorem dX10_pair_35 : decode cX10_pair 35 = .ok (.aload_n 0, 1) := by decide +kernel
theorem dX10_pair_36 : decode cX10_pair 36 = .ok (.getfield 21, 3) := by decide +kernel
theorem dX10_pair_39 : decode cX10_pair 39 = .ok (.invokestatic 113, 3) := by decide +kernel
theorem dX10_pair_42 : decode cX10_pair 42 = .ok (.return_, 1) := by decide +kernel
theorem dX10_pair_43 : decode cX10_pair 43 = .ok (.aload_n 0, 1) := by decide +kernel
theorem dX10_pair_44 : decode cX10_pair 44 = .ok (.aload_n 1, 1) := by decide +kernel
theorem dX10_pair_45 : decode cX10_pair 45 = .ok (.iload_n 2, 1) := by decide +kernel
theorem dX10_pair_46 : decode cX10_pair 46 = .ok (.iconst 1, 1) := by decide +kernel
theorem dX10_pair_47 : decode cX10_pair 47 = .ok (.iadd, 1) := by decide +kernel
theorem dX10_pair_48 : decode cX10_pair 48 = .ok (.iload_n 3, 1) := by decide +kernel
theorem dX10_pair_49 : decode cX10_pair 49 = .ok (.invokestatic 109, 3) := by decide +kernel
theorem dX10_pair_52 : decode cX10_pair 52 = .ok (.aload_n 0, 1) := by decide +kernel
theorem dX10_pair_53 : decode cX10_pair 53 = .ok (.getfield 18, 3) := by decide +kernel
theorem dX10_pair_56 : decode cX10_pair 56 = .ok (.iload_n 2, 1) := by decide +kernel
theorem dX10_pair_57 : decode cX10_pair 57 = .ok (.iaload, 1) := by decide +kernel
theorem dX10_pair_58 : decode cX10_pair 58 = .ok (.iconst (-1), 1) := by decide +kernel
theorem dX10_pair_59 : decode cX10_pair 59 = .ok (.if_icmp .eq 4, 3) := by decide +kernel
theorem dX10_pair_62 : decode cX10_pair 62 = .ok (.return_, 1) := by decide +kernel
theorem dX10_pair_63 : decode cX10_pair 63 = .ok (.iload_n 2, 1) := by decide +kernel
theorem dX10_pair_64 : decode cX10_pair 64 = .ok (.iconst 1, 1) := by decide +kernel
theorem dX10_pair_65 : decode cX10_pair 65 = .ok (.iadd, 1) := by decide +kernel
theorem dX10_pair_66 : decode cX10_pair 66 = .ok (.istore 4, 2) := by decide +kernel
theorem dX10_pair_68 : decode cX10_pair 68 = .ok (.iload 4, 2) := by decide +kernel
theorem dX10_pair_70 : decode cX10_pair 70 = .ok (.aload_n 0, 1) := by decide +kernel
theorem dX10_pair_71 : decode cX10_pair 71 = .ok (.getfield 27, 3) := by decide +kernel
theorem dX10_pair_74 : decode cX10_pair 74 = .ok (.if_icmp .ge 96, 3) := by decide +kernel
theorem dX10_pair_77 : decode cX10_pair 77 = .ok (.iload 4, 2) := by decide +kernel
theorem dX10_pair_79 : decode cX10_pair 79 = .ok (.bipush 6, 2) := by decide +kernel
theorem dX10_pair_81 : decode cX10_pair 81 = .ok (.if_icmp .ge 89, 3) := by decide +kernel
theorem dX10_pair_84 : decode cX10_pair 84 = .ok (.aload_n 0, 1) := by decide +kernel
theorem dX10_pair_85 : decode cX10_pair 85 = .ok (.getfield 18, 3) := by decide +kernel
theorem dX10_pair_88 : decode cX10_pair 88 = .ok (.iload 4, 2) := by decide +kernel
theorem dX10_pair_90 : decode cX10_pair 90 = .ok (.iaload, 1) := by decide +kernel
theorem dX10_pair_91 : decode cX10_pair 91 = .ok (.iconst (-1), 1) := by decide +kernel
theorem dX10_pair_92 : decode cX10_pair 92 = .ok (.if_icmp .ne 72, 3) := by decide +kernel
theorem dX10_pair_95 : decode cX10_pair 95 = .ok (.aload_n 0, 1) := by decide +kernel
theorem dX10_pair_96 : decode cX10_pair 96 = .ok (.getfield 9, 3) := by decide +kernel
theorem dX10_pair_99 : decode cX10_pair 99 = .ok (.iload_n 2, 1) := by decide +kernel
theorem dX10_pair_100 : decode cX10_pair 100 = .ok (.iaload, 1) := by decide +kernel
theorem dX10_pair_101 : decode cX10_pair 101 = .ok (.iload 4, 2) := by decide +kernel
theorem dX10_pair_103 : decode cX10_pair 103 = .ok (.invokestatic 55, 3) := by decide +kernel
theorem dX10_pair_106 : decode cX10_pair 106 = .ok (.ifCond .ne 58, 3) := by decide +kernel
theorem dX10_pair_109 : decode cX10_pair 109 = .ok (.aload_n 0, 1) := by decide +kernel
theorem dX10_pair_110 : decode cX10_pair 110 = .ok (.getfield 18, 3) := by decide +kernel
theorem dX10_pair_113 : decode cX10_pair 113 = .ok (.iload_n 2, 1) := by decide +kernel
theorem dX10_pair_114 : decode cX10_pair 114 = .ok (.iload 4, 2) := by decide +kernel
theorem dX10_pair_116 : decode cX10_pair 116 = .ok (.iastore, 1) := by decide +kernel
theorem dX10_pair_117 : decode cX10_pair 117 = .ok (.aload_n 0, 1) := by decide +kernel
theorem dX10_pair_118 : decode cX10_pair 118 = .ok (.getfield 18, 3) := by decide +kernel
theorem dX10_pair_121 : decode cX10_pair 121 = .ok (.iload 4, 2) := by decide +kernel
theorem dX10_pair_123 : decode cX10_pair 123 = .ok (.iload_n 2, 1) := by decide +kernel
theorem dX10_pair_124 : decode cX10_pair 124 = .ok (.iastore, 1) := by decide +kernel
theorem dX10_pair_125 : decode cX10_pair 125 = .ok (.aload_n 0, 1) := by decide +kernel
theorem dX10_pair_126 : decode cX10_pair 126 = .ok (.aload_n 1, 1) := by decide +kernel
theorem dX10_pair_127 : decode cX10_pair 127 = .ok (.iload_n 2, 1) := by decide +kernel
theorem dX10_pair_128 : decode cX10_pair 128 = .ok (.iconst 1, 1) := by decide +kernel
theorem dX10_pair_129 : decode cX10_pair 129 = .ok (.iadd, 1) := by decide +kernel
theorem dX10_pair_130 : decode cX10_pair 130 = .ok (.iload_n 3, 1) := by decide +kernel
theorem dX10_pair_131 : decode cX10_pair 131 = .ok (.aload_n 1, 1) := by decide +kernel
theorem dX10_pair_132 : decode cX10_pair 132 = .ok (.getfield 117, 3) := by decide +kernel
theorem dX10_pair_135 : decode cX10_pair 135 = .ok (.iload_n 2, 1) := by decide +kernel
theorem dX10_pair_136 : decode cX10_pair 136 = .ok (.iaload, 1) := by decide +kernel
theorem dX10_pair_137 : decode cX10_pair 137 = .ok (.iadd, 1) := by decide +kernel
theorem dX10_pair_138 : decode cX10_pair 138 = .ok (.aload_n 1, 1) := by decide +kernel
theorem dX10_pair_139 : decode cX10_pair 139 = .ok (.getfield 117, 3) := by decide +kernel
theorem dX10_pair_142 : decode cX10_pair 142 = .ok (.iload 4, 2) := by decide +kernel
theorem dX10_pair_144 : decode cX10_pair 144 = .ok (.iaload, 1) := by decide +kernel
theorem dX10_pair_145 : decode cX10_pair 145 = .ok (.iadd, 1) := by decide +kernel
theorem dX10_pair_146 : decode cX10_pair 146 = .ok (.invokestatic 109, 3) := by decide +kernel
theorem dX10_pair_149 : decode cX10_pair 149 = .ok (.aload_n 0, 1) := by decide +kernel
theorem dX10_pair_150 : decode cX10_pair 150 = .ok (.getfield 18, 3) := by decide +kernel
theorem dX10_pair_153 : decode cX10_pair 153 = .ok (.iload_n 2, 1) := by decide +kernel
theorem dX10_pair_154 : decode cX10_pair 154 = .ok (.iconst (-1), 1) := by decide +kernel
theorem dX10_pair_155 : decode cX10_pair 155 = .ok (.iastore, 1) := by decide +kernel
theorem dX10_pair_156 : decode cX10_pair 156 = .ok (.aload_n 0, 1) := by decide +kernel
theorem dX10_pair_157 : decode cX10_pair 157 = .ok (.getfield 18, 3) := by decide +kernel
theorem dX10_pair_160 : decode cX10_pair 160 = .ok (.iload 4, 2) := by decide +kernel
theorem dX10_pair_162 : decode cX10_pair 162 = .ok (.iconst (-1), 1) := by decide +kernel
theorem dX10_pair_163 : decode cX10_pair 163 = .ok (.iastore, 1) := by decide +kernel
theorem dX10_pair_164 : decode cX10_pair 164 = .ok (.iinc 4 1, 3) := by decide +kernel
theorem dX10_pair_167 : decode cX10_pair 167 = .ok (.goto (-99), 3) := by decide +kernel
theorem dX10_pair_170 : decode cX10_pair 170 = .ok (.return_, 1) := by decide +kernel
theorem dX11_init_0 : decode cX11_init 0 = .ok (.aload_n 0, 1) := by decide +kernel
theorem dX11_init_1 : decode cX11_init 1 = .ok (.invokespecial 3, 3) := by decide +kernel
theorem dX11_init_4 : decode cX11_init 4 = .ok (.aload_n 0, 1) := by decide +kernel
theorem dX11_init_5 : decode cX11_init 5 = .ok (.new 9, 3) := by decide +kernel
theorem dX11_init_8 : decode cX11_init 8 = .ok (.dup, 1) := by decide +kernel
theorem dX11_init_9 : decode cX11_init 9 = .ok (.invokespecial 11, 3) := by decide +kernel
theorem dX11_init_12 : decode cX11_init 12 = .ok (.putfield 12, 3) := by decide +kernel
theorem dX11_init_15 : decode cX11_init 15 = .ok (.aload_n 0, 1) := by decide +kernel
theorem dX11_init_16 : decode cX11_init 16 = .ok (.new 16, 3) := by decide +kernel
theorem dX11_init_19 : decode cX11_init 19 = .ok (.dup, 1) := by decide +kernel
theorem dX11_init_20 : decode cX11_init 20 = .ok (.invokespecial 18, 3) := by decide +kernel
theorem dX11_init_23 : decode cX11_init 23 = .ok (.putfield 19, 3) := by decide +kernel
theorem dX11_init_26 : decode cX11_init 26 = .ok (.aload_n 0, 1) := by decide +kernel
theorem dX11_init_27 : decode cX11_init 27 = .ok (.new 23, 3) := by decide +kernel
theorem dX11_init_30 : decode cX11_init 30 = .ok (.dup, 1) := by decide +kernel
theorem dX11_init_31 : decode cX11_init 31 = .ok (.aload_n 0, 1) := by decide +kernel
theorem dX11_init_32 : decode cX11_init 32 = .ok (.getfield 19, 3) := by decide +kernel
theorem dX11_init_35 : decode cX11_init 35 = .ok (.invokespecial 25, 3) := by decide +kernel
theorem dX11_init_38 : decode cX11_init 38 = .ok (.putfield 28, 3) := by decide +kernel
theorem dX11_init_41 : decode cX11_init 41 = .ok (.aload_n 0, 1) := by decide +kernel
theorem dX11_init_42 : decode cX11_init 42 = .ok (.new 32, 3) := by decide +kernel
theorem dX11_init_45 : decode cX11_init 45 = .ok (.dup, 1) := by decide +kernel
theorem dX11_init_46 : decode cX11_init 46 = .ok (.aload_n 0, 1) := by decide +kernel
theorem dX11_init_47 : decode cX11_init 47 = .ok (.getfield 19, 3) := by decide +kernel
theorem dX11_init_50 : decode cX11_init 50 = .ok (.invokespecial 34, 3) := by decide +kernel
theorem dX11_init_53 : decode cX11_init 53 = .ok (.putfield 35, 3) := by decide +kernel
theorem dX11_init_56 : decode cX11_init 56 = .ok (.aload_n 0, 1) := by decide +kernel
theorem dX11_init_57 : decode cX11_init 57 = .ok (.new 39, 3) := by decide +kernel
theorem dX11_init_60 : decode cX11_init 60 = .ok (.dup, 1) := by decide +kernel
theorem dX11_init_61 : decode cX11_init 61 = .ok (.invokespecial 41, 3) := by decide +kernel
theorem dX11_init_64 : decode cX11_init 64 = .ok (.putfield 42, 3) := by decide +kernel
theorem dX11_init_67 : decode cX11_init 67 = .ok (.aload_n 0, 1) := by decide +kernel
theorem dX11_init_68 : decode cX11_init 68 = .ok (.new 39, 3) := by decide +kernel
theorem dX11_init_71 : decode cX11_init 71 = .ok (.dup, 1) := by decide +kernel
theorem dX11_init_72 : decode cX11_init 72 = .ok (.invokespecial 41, 3) := by decide +kernel
theorem dX11_init_75 : decode cX11_init 75 = .ok (.putfield 46, 3) := by decide +kernel
theorem dX11_init_78 : decode cX11_init 78 = .ok (.aload_n 0, 1) := by decide +kernel
theorem dX11_init_79 : decode cX11_init 79 = .ok (.new 49, 3) := by decide +kernel
theorem dX11_init_82 : decode cX11_init 82 = .ok (.dup, 1) := by decide +kernel
theorem dX11_init_83 : decode cX11_init 83 = .ok (.invokespecial 51, 3) := by decide +kernel
theorem dX11_init_86 : decode cX11_init 86 = .ok (.putfield 52, 3) := by decide +kernel
theorem dX11_init_89 : decode cX11_init 89 = .ok (.aload_n 0, 1) := by decide +kernel
theorem dX11_init_90 : decode cX11_init 90 = .ok (.new 49, 3) := by decide +kernel
theorem dX11_init_93 : decode cX11_init 93 = .ok (.dup, 1) := by decide +kernel
theorem dX11_init_94 : decode cX11_init 94 = .ok (.invokespecial 51, 3) := by decide +kernel
theorem dX11_init_97 : decode cX11_init 97 = .ok (.putfield 56, 3) := by decide +kernel
theorem dX11_init_100 : decode cX11_init 100 = .ok (.aload_n 0, 1) := by decide +kernel
theorem dX11_init_101 : decode cX11_init 101 = .ok (.new 59, 3) := by decide +kernel
theorem dX11_init_104 : decode cX11_init 104 = .ok (.dup, 1) := by decide +kernel
theorem dX11_init_105 : decode cX11_init 105 = .ok (.invokespecial 61, 3) := by decide +kernel
theorem dX11_init_108 : decode cX11_init 108 = .ok (.putfield 62, 3) := by decide +kernel
theorem dX11_init_111 : decode cX11_init 111 = .ok (.aload_n 0, 1) := by decide +kernel
theorem dX11_init_112 : decode cX11_init 112 = .ok (.new 66, 3) := by decide +kernel
theorem dX11_init_115 : decode cX11_init 115 = .ok (.dup, 1) := by decide +kernel
theorem dX11_init_116 : decode cX11_init 116 = .ok (.invokespecial 68, 3) := by decide +kernel
theorem dX11_init_119 : decode cX11_init 119 = .ok (.putfield 69, 3) := by decide +kernel
theorem dX11_init_122 : decode cX11_init 122 = .ok (.aload_n 0, 1) := by decide +kernel
theorem dX11_init_123 : decode cX11_init 123 = .ok (.new 39, 3) := by decide +kernel
theorem dX11_init_126 : decode cX11_init 126 = .ok (.dup, 1) := by decide +kernel
theorem dX11_init_127 : decode cX11_init 127 = .ok (.invokespecial 41, 3) := by decide +kernel
theorem dX11_init_130 : decode cX11_init 130 = .ok (.putfield 73, 3) := by decide +kernel
theorem dX11_init_133 : decode cX11_init 133 = .ok (.aload_n 0, 1) := by decide +kernel
theorem dX11_init_134 : decode cX11_init 134 = .ok (.new 49, 3) := by decide +kernel
theorem dX11_init_137 : decode cX11_init 137 = .ok (.dup, 1) := by decide +kernel
theorem dX11_init_138 : decode cX11_init 138 = .ok (.invokespecial 51, 3) := by decide +kernel
theorem dX11_init_141 : decode cX11_init 141 = .ok (.putfield 76, 3) := by decide +kernel
theorem dX11_init_144 : decode cX11_init 144 = .ok (.aload_n 0, 1) := by decide +kernel
theorem dX11_init_145 : decode cX11_init 145 = .ok (.iconst 0, 1) := by decide +kernel
theorem dX11_init_146 : decode cX11_init 146 = .ok (.putfield 79, 3) := by decide +kernel
theorem dX11_init_149 : decode cX11_init 149 = .ok (.return_, 1) := by decide +kernel
theorem dX11_feed_0 : decode cX11_feed 0 = .ok (.aload_n 0, 1) := by decide +kernel
theorem dX11_feed_1 : decode cX11_feed 1 = .ok (.getfield 12, 3) := by decide +kernel
theorem dX11_feed_4 : decode cX11_feed 4 = .ok (.getfield 83, 3) := by decide +kernel
theorem dX11_feed_7 : decode cX11_feed 7 = .ok (.bipush 20, 2) := by decide +kernel
theorem dX11_feed_9 : decode cX11_feed 9 = .ok (.iadd, 1) := by decide +kernel
theorem dX11_feed_10 : decode cX11_feed 10 = .ok (.sipush 400, 3) := by decide +kernel
theorem dX11_feed_13 : decode cX11_feed 13 = .ok (.if_icmp .le 5, 3) := by decide +kernel
theorem dX11_feed_16 : decode cX11_feed 16 = .ok (.iconst (-1), 1) := by decide +kernel
theorem dX11_feed_17 : decode cX11_feed 17 = .ok (.ireturn, 1) := by decide +kernel
theorem dX11_feed_18 : decode cX11_feed 18 = .ok (.aload_n 0, 1) := by decide +kernel
theorem dX11_feed_19 : decode cX11_feed 19 = .ok (.getfield 12, 3) := by decide +kernel
theorem dX11_feed_22 : decode cX11_feed 22 = .ok (.iload_n 1, 1) := by decide +kernel
theorem dX11_feed_23 : decode cX11_feed 23 = .ok (.invokevirtual 87, 3) := by decide +kernel
theorem dX11_feed_26 : decode cX11_feed 26 = .ok (.aload_n 0, 1) := by decide +kernel
theorem dX11_feed_27 : decode cX11_feed 27 = .ok (.getfield 12, 3) := by decide +kernel
theorem dX11_feed_30 : decode cX11_feed 30 = .ok (.iload_n 2, 1) := by decide +kernel
theorem dX11_feed_31 : decode cX11_feed 31 = .ok (.invokevirtual 87, 3) := by decide +kernel
theorem dX11_feed_34 : decode cX11_feed 34 = .ok (.aload_n 0, 1) := by decide +kernel
theorem dX11_feed_35 : decode cX11_feed 35 = .ok (.getfield 12, 3) := by decide +kernel
theorem dX11_feed_38 : decode cX11_feed 38 = .ok (.iload_n 3, 1) := by decide +kernel
theorem dX11_feed_39 : decode cX11_feed 39 = .ok (.invokevirtual 87, 3) := by decide +kernel
theorem dX11_feed_42 : decode cX11_feed 42 = .ok (.aload_n 0, 1) := by decide +kernel
theorem dX11_feed_43 : decode cX11_feed 43 = .ok (.getfield 12, 3) := by decide +kernel
theorem dX11_feed_46 : decode cX11_feed 46 = .ok (.iload 4, 2) := by decide +kernel
theorem dX11_feed_48 : decode cX11_feed 48 = .ok (.invokevirtual 87, 3) := by decide +kernel
theorem dX11_feed_51 : decode cX11_feed 51 = .ok (.aload_n 0, 1) := by decide +kernel
theorem dX11_feed_52 : decode cX11_feed 52 = .ok (.getfield 12, 3) := by decide +kernel
theorem dX11_feed_55 : decode cX11_feed 55 = .ok (.iload 5, 2) := by decide +kernel
theorem dX11_feed_57 : decode cX11_feed 57 = .ok (.invokevirtual 87, 3) := by decide +kernel
theorem dX11_feed_60 : decode cX11_feed 60 = .ok (.aload_n 0, 1) := by decide +kernel
theorem dX11_feed_61 : decode cX11_feed 61 = .ok (.getfield 12, 3) := by decide +kernel
theorem dX11_feed_64 : decode cX11_feed 64 = .ok (.getfield 83, 3) := by decide +kernel
theorem dX11_feed_67 : decode cX11_feed 67 = .ok (.ireturn, 1) := by decide +kernel
theorem dX11_end_0 : decode cX11_end 0 = .ok (.iload_n 1, 1) := by decide +kernel
theorem dX11_end_1 : decode cX11_end 1 = .ok (.ifCond .lt 14, 3) := by decide +kernel
theorem dX11_end_4 : decode cX11_end 4 = .ok (.iload_n 1, 1) := by decide +kernel
theorem dX11_end_5 : decode cX11_end 5 = .ok (.aload_n 0, 1) := by decide +kernel
theorem dX11_end_6 : decode cX11_end 6 = .ok (.getfield 12, 3) := by decide +kernel
theorem dX11_end_9 : decode cX11_end 9 = .ok (.getfield 83, 3) := by decide +kernel
theorem dX11_end_12 : decode cX11_end 12 = .ok (.if_icmp .le 5, 3) := by decide +kernel
theorem dX11_end_15 : decode cX11_end 15 = .ok (.iconst 0, 1) := by decide +kernel
theorem dX11_end_16 : decode cX11_end 16 = .ok (.ireturn, 1) := by decide +kernel
theorem dX11_end_17 : decode cX11_end 17 = .ok (.aload_n 0, 1) := by decide +kernel
theorem dX11_end_18 : decode cX11_end 18 = .ok (.getfield 12, 3) := by decide +kernel
theorem dX11_end_21 : decode cX11_end 21 = .ok (.iload_n 1, 1) := by decide +kernel
theorem dX11_end_22 : decode cX11_end 22 = .ok (.putfield 83, 3) := by decide +kernel
theorem dX11_end_25 : decode cX11_end 25 = .ok (.iconst 1, 1) := by decide +kernel
theorem dX11_end_26 : decode cX11_end 26 = .ok (.ireturn, 1) := by decide +kernel
theorem dX11_town_0 : decode cX11_town 0 = .ok (.aload_n 0, 1) := by decide +kernel
theorem dX11_town_1 : decode cX11_town 1 = .ok (.getfield 19, 3) := by decide +kernel
theorem dX11_town_4 : decode cX11_town 4 = .ok (.aload_n 0, 1) := by decide +kernel
theorem dX11_town_5 : decode cX11_town 5 = .ok (.getfield 12, 3) := by decide +kernel
theorem dX11_town_8 : decode cX11_town 8 = .ok (.invokevirtual 91, 3) := by decide +kernel
theorem dX11_town_11 : decode cX11_town 11 = .ok (.aload_n 0, 1) := by decide +kernel
theorem dX11_town_12 : decode cX11_town 12 = .ok (.getfield 46, 3) := by decide +kernel
theorem dX11_town_15 : decode cX11_town 15 = .ok (.aload_n 0, 1) := by decide +kernel
theorem dX11_town_16 : decode cX11_town 16 = .ok (.getfield 42, 3) := by decide +kernel
theorem dX11_town_19 : decode cX11_town 19 = .ok (.invokevirtual 95, 3) := by decide +kernel
theorem dX11_town_22 : decode cX11_town 22 = .ok (.aload_n 0, 1) := by decide +kernel
theorem dX11_town_23 : decode cX11_town 23 = .ok (.getfield 28, 3) := by decide +kernel
theorem dX11_town_26 : decode cX11_town 26 = .ok (.aload_n 0, 1) := by decide +kernel
theorem dX11_town_27 : decode cX11_town 27 = .ok (.getfield 46, 3) := by decide +kernel
theorem dX11_town_30 : decode cX11_town 30 = .ok (.invokevirtual 99, 3) := by decide +kernel
theorem dX11_town_33 : decode cX11_town 33 = .ok (.aload_n 0, 1) := by decide +kernel
theorem dX11_town_34 : decode cX11_town 34 = .ok (.getfield 42, 3) := by decide +kernel
theorem dX11_town_37 : decode cX11_town 37 = .ok (.getfield 101, 3) := by decide +kernel
theorem dX11_town_40 : decode cX11_town 40 = .ok (.bipush 12, 2) := by decide +kernel
theorem dX11_town_42 : decode cX11_town 42 = .ok (.if_icmp .lt 13, 3) := by decide +kernel
theorem dX11_town_45 : decode cX11_town 45 = .ok (.new 104, 3) := by decide +kernel
theorem dX11_town_48 : decode cX11_town 48 = .ok (.dup, 1) := by decide +kernel
theorem dX11_town_49 : decode cX11_town 49 = .ok (.ldc 106, 2) := by decide +kernel
theorem dX11_town_51 : decode cX11_town 51 = .ok (.invokespecial 108, 3) := by decide +kernel
theorem dX11_town_54 : decode cX11_town 54 = .ok (.athrow, 1) := by decide +kernel
theorem dX11_town_55 : decode cX11_town 55 = .ok (.aload_n 0, 1) := by decide +kernel
theorem dX11_town_56 : decode cX11_town 56 = .ok (.getfield 46, 3) := by decide +kernel
theorem dX11_town_59 : decode cX11_town 59 = .ok (.dup, 1) := by decide +kernel
theorem dX11_town_60 : decode cX11_town 60 = .ok (.getfield 101, 3) := by decide +kernel
theorem dX11_town_63 : decode cX11_town 63 = .ok (.iconst 1, 1) := by decide +kernel
theorem dX11_town_64 : decode cX11_town 64 = .ok (.iadd, 1) := by decide +kernel
theorem dX11_town_65 : decode cX11_town 65 = .ok (.putfield 101, 3) := by decide +kernel
theorem dX11_town_68 : decode cX11_town 68 = .ok (.aload_n 0, 1) := by decide +kernel
theorem dX11_town_69 : decode cX11_town 69 = .ok (.getfield 42, 3) := by decide +kernel
theorem dX11_town_72 : decode cX11_town 72 = .ok (.aload_n 0, 1) := by decide +kernel
theorem dX11_town_73 : decode cX11_town 73 = .ok (.getfield 46, 3) := by decide +kernel
theorem dX11_town_76 : decode cX11_town 76 = .ok (.invokevirtual 95, 3) := by decide +kernel
theorem dX11_town_79 : decode cX11_town 79 = .ok (.aload_n 0, 1) := by decide +kernel
theorem dX11_town_80 : decode cX11_town 80 = .ok (.getfield 62, 3) := by decide +kernel
theorem dX11_town_83 : decode cX11_town 83 = .ok (.invokevirtual 111, 3) := by decide +kernel
theorem dX11_town_86 : decode cX11_town 86 = .ok (.aload_n 0, 1) := by decide +kernel
theorem dX11_town_87 : decode cX11_town 87 = .ok (.getfield 42, 3) := by decide +kernel
theorem dX11_town_90 : decode cX11_town 90 = .ok (.getfield 101, 3) := by decide +kernel
theorem dX11_town_93 : decode cX11_town 93 = .ok (.ireturn, 1) := by decide +kernel
theorem dX11_law_0 : decode cX11_law 0 = .ok (.aload_n 0, 1) := by decide +kernel
theorem dX11_law_1 : decode cX11_law 1 = .ok (.getfield 19, 3) := by decide +kernel
theorem dX11_law_4 : decode cX11_law 4 = .ok (.aload_n 0, 1) := by decide +kernel
theorem dX11_law_5 : decode cX11_law 5 = .ok (.getfield 12, 3) := by decide +kernel
theorem dX11_law_8 : decode cX11_law 8 = .ok (.invokevirtual 91, 3) := by decide +kernel
theorem dX11_law_11 : decode cX11_law 11 = .ok (.aload_n 0, 1) := by decide +kernel
theorem dX11_law_12 : decode cX11_law 12 = .ok (.getfield 56, 3) := by decide +kernel
theorem dX11_law_15 : decode cX11_law 15 = .ok (.invokevirtual 114, 3) := by decide +kernel
theorem dX11_law_18 : decode cX11_law 18 = .ok (.aload_n 0, 1) := by decide +kernel
theorem dX11_law_19 : decode cX11_law 19 = .ok (.getfield 35, 3) := by decide +kernel
theorem dX11_law_22 : decode cX11_law 22 = .ok (.aload_n 0, 1) := by decide +kernel
theorem dX11_law_23 : decode cX11_law 23 = .ok (.getfield 56, 3) := by decide +kernel
theorem dX11_law_26 : decode cX11_law 26 = .ok (.invokevirtual 117, 3) := by decide +kernel
theorem dX11_law_29 : decode cX11_law 29 = .ok (.aload_n 0, 1) := by decide +kernel
theorem dX11_law_30 : decode cX11_law 30 = .ok (.getfield 52, 3) := by decide +kernel
theorem dX11_law_33 : decode cX11_law 33 = .ok (.aload_n 0, 1) := by decide +kernel
theorem dX11_law_34 : decode cX11_law 34 = .ok (.getfield 56, 3) := by decide +kernel
theorem dX11_law_37 : decode cX11_law 37 = .ok (.invokevirtual 120, 3) := by decide +kernel
theorem dX11_law_40 : decode cX11_law 40 = .ok (.aload_n 0, 1) := by decide +kernel
theorem dX11_law_41 : decode cX11_law 41 = .ok (.getfield 62, 3) := by decide +kernel
theorem dX11_law_44 : decode cX11_law 44 = .ok (.invokevirtual 111, 3) := by decide +kernel
theorem dX11_law_47 : decode cX11_law 47 = .ok (.aload_n 0, 1) := by decide +kernel
theorem dX11_law_48 : decode cX11_law 48 = .ok (.getfield 52, 3) := by decide +kernel
theorem dX11_law_51 : decode cX11_law 51 = .ok (.getfield 122, 3) := by decide +kernel
theorem dX11_law_54 : decode cX11_law 54 = .ok (.ireturn, 1) := by decide +kernel
theorem dX11_fault_0 : decode cX11_fault 0 = .ok (.aload_n 0, 1) := by decide +kernel
theorem dX11_fault_1 : decode cX11_fault 1 = .ok (.getfield 19, 3) := by decide +kernel
theorem dX11_fault_4 : decode cX11_fault 4 = .ok (.getfield 125, 3) := by decide +kernel
theorem dX11_fault_7 : decode cX11_fault 7 = .ok (.ireturn, 1) := by decide +kernel
theorem dX11_family_0 : decode cX11_family 0 = .ok (.aload_n 0, 1) := by decide +kernel
theorem dX11_family_1 : decode cX11_family 1 = .ok (.iload_n 1, 1) := by decide +kernel
theorem dX11_family_2 : decode cX11_family 2 = .ok (.invokevirtual 128, 3) := by decide +kernel
theorem dX11_family_5 : decode cX11_family 5 = .ok (.iload_n 2, 1) := by decide +kernel
theorem dX11_family_6 : decode cX11_family 6 = .ok (.tableswitch 127 0 6 #[42, 55, 68, 81, 94, 106, 118], 42) := by decide +kernel
theorem dX11_family_48 : decode cX11_family 48 = .ok (.aload_n 0, 1) := by decide +kernel
theorem dX11_family_49 : decode cX11_family 49 = .ok (.getfield 42, 3) := by decide +kernel
theorem dX11_family_52 : decode cX11_family 52 = .ok (.getfield 131, 3) := by decide +kernel
theorem dX11_family_55 : decode cX11_family 55 = .ok (.getfield 135, 3) := by decide +kernel
theorem dX11_family_58 : decode cX11_family 58 = .ok (.iload_n 1, 1) := by decide +kernel
theorem dX11_family_59 : decode cX11_family 59 = .ok (.iaload, 1) := by decide +kernel
theorem dX11_family_60 : decode cX11_family 60 = .ok (.ireturn, 1) := by decide +kernel
theorem dX11_family_61 : decode cX11_family 61 = .ok (.aload_n 0, 1) := by decide +kernel
theorem dX11_family_62 : decode cX11_family 62 = .ok (.getfield 42, 3) := by decide +kernel
theorem dX11_family_65 : decode cX11_family 65 = .ok (.getfield 131, 3) := by decide +kernel
theorem dX11_family_68 : decode cX11_family 68 = .ok (.getfield 141, 3) := by decide +kernel
theorem dX11_family_71 : decode cX11_family 71 = .ok (.iload_n 1, 1) := by decide +kernel
theorem dX11_family_72 : decode cX11_family 72 = .ok (.iaload, 1) := by decide +kernel
theorem dX11_family_73 : decode cX11_family 73 = .ok (.ireturn, 1) := by decide +kernel
theorem dX11_family_74 : decode cX11_family 74 = .ok (.aload_n 0, 1) := by decide +kernel
theorem dX11_family_75 : decode cX11_family 75 = .ok (.getfield 42, 3) := by decide +kernel
theorem dX11_family_78 : decode cX11_family 78 = .ok (.getfield 131, 3) := by decide +kernel
theorem dX11_family_81 : decode cX11_family 81 = .ok (.getfield 144, 3) := by decide +kernel
theorem dX11_family_84 : decode cX11_family 84 = .ok (.iload_n 1, 1) := by decide +kernel
theorem dX11_family_85 : decode cX11_family 85 = .ok (.iaload, 1) := by decide +kernel
theorem dX11_family_86 : decode cX11_family 86 = .ok (.ireturn, 1) := by decide +kernel
theorem dX11_family_87 : decode cX11_family 87 = .ok (.aload_n 0, 1) := by decide +kernel
theorem dX11_family_88 : decode cX11_family 88 = .ok (.getfield 42, 3) := by decide +kernel
theorem dX11_family_91 : decode cX11_family 91 = .ok (.getfield 131, 3) := by decide +kernel
theorem dX11_family_94 : decode cX11_family 94 = .ok (.getfield 147, 3) := by decide +kernel
theorem dX11_family_97 : decode cX11_family 97 = .ok (.iload_n 1, 1) := by decide +kernel
theorem dX11_family_98 : decode cX11_family 98 = .ok (.iaload, 1) := by decide +kernel
theorem dX11_family_99 : decode cX11_family 99 = .ok (.ireturn, 1) := by decide +kernel
theorem dX11_family_100 : decode cX11_family 100 = .ok (.aload_n 0, 1) := by decide +kernel
theorem dX11_family_101 : decode cX11_family 101 = .ok (.getfield 42, 3) := by decide +kernel
theorem dX11_family_104 : decode cX11_family 104 = .ok (.getfield 150, 3) := by decide +kernel
theorem dX11_family_107 : decode cX11_family 107 = .ok (.iload_n 1, 1) := by decide +kernel
theorem dX11_family_108 : decode cX11_family 108 = .ok (.invokevirtual 154, 3) := by decide +kernel
theorem dX11_family_111 : decode cX11_family 111 = .ok (.ireturn, 1) := by decide +kernel
theorem dX11_family_112 : decode cX11_family 112 = .ok (.aload_n 0, 1) := by decide +kernel
theorem dX11_family_113 : decode cX11_family 113 = .ok (.getfield 42, 3) := by decide +kernel
theorem dX11_family_116 : decode cX11_family 116 = .ok (.getfield 131, 3) := by decide +kernel
theorem dX11_family_119 : decode cX11_family 119 = .ok (.iload_n 1, 1) := by decide +kernel
theorem dX11_family_120 : decode cX11_family 120 = .ok (.invokevirtual 160, 3) := by decide +kernel
theorem dX11_family_123 : decode cX11_family 123 = .ok (.ireturn, 1) := by decide +kernel
theorem dX11_family_124 : decode cX11_family 124 = .ok (.aload_n 0, 1) := by decide +kernel
theorem dX11_family_125 : decode cX11_family 125 = .ok (.getfield 42, 3) := by decide +kernel
theorem dX11_family_128 : decode cX11_family 128 = .ok (.iload_n 1, 1) := by decide +kernel
theorem dX11_family_129 : decode cX11_family 129 = .ok (.invokevirtual 163, 3) := by decide +kernel
theorem dX11_family_132 : decode cX11_family 132 = .ok (.ireturn, 1) := by decide +kernel
theorem dX11_family_133 : decode cX11_family 133 = .ok (.new 166, 3) := by decide +kernel
theorem dX11_family_136 : decode cX11_family 136 = .ok (.dup, 1) := by decide +kernel
theorem dX11_family_137 : decode cX11_family 137 = .ok (.ldc 168, 2) := by decide +kernel
theorem dX11_family_139 : decode cX11_family 139 = .ok (.invokespecial 170, 3) := by decide +kernel
theorem dX11_family_142 : decode cX11_family 142 = .ok (.athrow, 1) := by decide +kernel
theorem dX11_grudge_0 : decode cX11_grudge 0 = .ok (.aload_n 0, 1) := by decide +kernel
theorem dX11_grudge_1 : decode cX11_grudge 1 = .ok (.iload_n 1, 1) := by decide +kernel
theorem dX11_grudge_2 : decode cX11_grudge 2 = .ok (.invokevirtual 171, 3) := by decide +kernel
theorem dX11_grudge_5 : decode cX11_grudge 5 = .ok (.iload_n 2, 1) := by decide +kernel
theorem dX11_grudge_6 : decode cX11_grudge 6 = .ok (.tableswitch 225 0 10 #[58, 71, 84, 97, 110, 123, 144, 165, 181, 197, 213], 58) := by decide +kernel
theorem dX11_grudge_64 : decode cX11_grudge 64 = .ok (.aload_n 0, 1) := by decide +kernel
theorem dX11_grudge_65 : decode cX11_grudge 65 = .ok (.getfield 42, 3) := by decide +kernel
theorem dX11_grudge_68 : decode cX11_grudge 68 = .ok (.getfield 150, 3) := by decide +kernel
theorem dX11_grudge_71 : decode cX11_grudge 71 = .ok (.getfield 174, 3) := by decide +kernel
theorem dX11_grudge_74 : decode cX11_grudge 74 = .ok (.iload_n 1, 1) := by decide +kernel
theorem dX11_grudge_75 : decode cX11_grudge 75 = .ok (.iaload, 1) := by decide +kernel
theorem dX11_grudge_76 : decode cX11_grudge 76 = .ok (.ireturn, 1) := by decide +kernel
theorem dX11_grudge_77 : decode cX11_grudge 77 = .ok (.aload_n 0, 1) := by decide +kernel
theorem dX11_grudge_78 : decode cX11_grudge 78 = .ok (.getfield 42, 3) := by decide +kernel
theorem dX11_grudge_81 : decode cX11_grudge 81 = .ok (.getfield 150, 3) := by decide +kernel
theorem dX11_grudge_84 : decode cX11_grudge 84 = .ok (.getfield 177, 3) := by decide +kernel
theorem dX11_grudge_87 : decode cX11_grudge 87 = .ok (.iload_n 1, 1) := by decide +kernel
theorem dX11_grudge_88 : decode cX11_grudge 88 = .ok (.iaload, 1) := by decide +kernel
theorem dX11_grudge_89 : decode cX11_grudge 89 = .ok (.ireturn, 1) := by decide +kernel
theorem dX11_grudge_90 : decode cX11_grudge 90 = .ok (.aload_n 0, 1) := by decide +kernel
theorem dX11_grudge_91 : decode cX11_grudge 91 = .ok (.getfield 42, 3) := by decide +kernel
theorem dX11_grudge_94 : decode cX11_grudge 94 = .ok (.getfield 150, 3) := by decide +kernel
theorem dX11_grudge_97 : decode cX11_grudge 97 = .ok (.getfield 180, 3) := by decide +kernel
theorem dX11_grudge_100 : decode cX11_grudge 100 = .ok (.iload_n 1, 1) := by decide +kernel
theorem dX11_grudge_101 : decode cX11_grudge 101 = .ok (.iaload, 1) := by decide +kernel
theorem dX11_grudge_102 : decode cX11_grudge 102 = .ok (.ireturn, 1) := by decide +kernel
theorem dX11_grudge_103 : decode cX11_grudge 103 = .ok (.aload_n 0, 1) := by decide +kernel
theorem dX11_grudge_104 : decode cX11_grudge 104 = .ok (.getfield 42, 3) := by decide +kernel
theorem dX11_grudge_107 : decode cX11_grudge 107 = .ok (.getfield 150, 3) := by decide +kernel
theorem dX11_grudge_110 : decode cX11_grudge 110 = .ok (.getfield 183, 3) := by decide +kernel
theorem dX11_grudge_113 : decode cX11_grudge 113 = .ok (.iload_n 1, 1) := by decide +kernel
theorem dX11_grudge_114 : decode cX11_grudge 114 = .ok (.iaload, 1) := by decide +kernel
theorem dX11_grudge_115 : decode cX11_grudge 115 = .ok (.ireturn, 1) := by decide +kernel
theorem dX11_grudge_116 : decode cX11_grudge 116 = .ok (.aload_n 0, 1) := by decide +kernel
theorem dX11_grudge_117 : decode cX11_grudge 117 = .ok (.getfield 42, 3) := by decide +kernel
theorem dX11_grudge_120 : decode cX11_grudge 120 = .ok (.getfield 150, 3) := by decide +kernel
theorem dX11_grudge_123 : decode cX11_grudge 123 = .ok (.getfield 186, 3) := by decide +kernel
theorem dX11_grudge_126 : decode cX11_grudge 126 = .ok (.iload_n 1, 1) := by decide +kernel
theorem dX11_grudge_127 : decode cX11_grudge 127 = .ok (.iaload, 1) := by decide +kernel
theorem dX11_grudge_128 : decode cX11_grudge 128 = .ok (.ireturn, 1) := by decide +kernel
theorem dX11_grudge_129 : decode cX11_grudge 129 = .ok (.aload_n 0, 1) := by decide +kernel
theorem dX11_grudge_130 : decode cX11_grudge 130 = .ok (.getfield 42, 3) := by decide +kernel
theorem dX11_grudge_133 : decode cX11_grudge 133 = .ok (.getfield 150, 3) := by decide +kernel
theorem dX11_grudge_136 : decode cX11_grudge 136 = .ok (.getfield 189, 3) := by decide +kernel
theorem dX11_grudge_139 : decode cX11_grudge 139 = .ok (.iload_n 1, 1) := by decide +kernel
theorem dX11_grudge_140 : decode cX11_grudge 140 = .ok (.baload, 1) := by decide +kernel
theorem dX11_grudge_141 : decode cX11_grudge 141 = .ok (.ifCond .eq 7, 3) := by decide +kernel
theorem dX11_grudge_144 : decode cX11_grudge 144 = .ok (.iconst 1, 1) := by decide +kernel
theorem dX11_grudge_145 : decode cX11_grudge 145 = .ok (.goto 4, 3) := by decide +kernel
theorem dX11_grudge_148 : decode cX11_grudge 148 = .ok (.iconst 0, 1) := by decide +kernel
theorem dX11_grudge_149 : decode cX11_grudge 149 = .ok (.ireturn, 1) := by decide +kernel
theorem dX11_grudge_150 : decode cX11_grudge 150 = .ok (.aload_n 0, 1) := by decide +kernel
theorem dX11_grudge_151 : decode cX11_grudge 151 = .ok (.getfield 42, 3) := by decide +kernel
theorem dX11_grudge_154 : decode cX11_grudge 154 = .ok (.getfield 150, 3) := by decide +kernel
theorem dX11_grudge_157 : decode cX11_grudge 157 = .ok (.getfield 193, 3) := by decide +kernel
theorem dX11_grudge_160 : decode cX11_grudge 160 = .ok (.iload_n 1, 1) := by decide +kernel
theorem dX11_grudge_161 : decode cX11_grudge 161 = .ok (.baload, 1) := by decide +kernel
theorem dX11_grudge_162 : decode cX11_grudge 162 = .ok (.ifCond .eq 7, 3) := by decide +kernel
theorem dX11_grudge_165 : decode cX11_grudge 165 = .ok (.iconst 1, 1) := by decide +kernel
theorem dX11_grudge_166 : decode cX11_grudge 166 = .ok (.goto 4, 3) := by decide +kernel
theorem dX11_grudge_169 : decode cX11_grudge 169 = .ok (.iconst 0, 1) := by decide +kernel
theorem dX11_grudge_170 : decode cX11_grudge 170 = .ok (.ireturn, 1) := by decide +kernel
theorem dX11_grudge_171 : decode cX11_grudge 171 = .ok (.aload_n 0, 1) := by decide +kernel
theorem dX11_grudge_172 : decode cX11_grudge 172 = .ok (.getfield 42, 3) := by decide +kernel
theorem dX11_grudge_175 : decode cX11_grudge 175 = .ok (.aload_n 0, 1) := by decide +kernel
theorem dX11_grudge_176 : decode cX11_grudge 176 = .ok (.getfield 52, 3) := by decide +kernel
theorem dX11_grudge_179 : decode cX11_grudge 179 = .ok (.sipush 1023, 3) := by decide +kernel
theorem dX11_grudge_182 : decode cX11_grudge 182 = .ok (.iload_n 1, 1) := by decide +kernel
theorem dX11_grudge_183 : decode cX11_grudge 183 = .ok (.invokevirtual 196, 3) := by decide +kernel
theorem dX11_grudge_186 : decode cX11_grudge 186 = .ok (.ireturn, 1) := by decide +kernel
theorem dX11_grudge_187 : decode cX11_grudge 187 = .ok (.aload_n 0, 1) := by decide +kernel
theorem dX11_grudge_188 : decode cX11_grudge 188 = .ok (.getfield 42, 3) := by decide +kernel
theorem dX11_grudge_191 : decode cX11_grudge 191 = .ok (.aload_n 0, 1) := by decide +kernel
theorem dX11_grudge_192 : decode cX11_grudge 192 = .ok (.getfield 52, 3) := by decide +kernel
theorem dX11_grudge_195 : decode cX11_grudge 195 = .ok (.sipush 1024, 3) := by decide +kernel
theorem dX11_grudge_198 : decode cX11_grudge 198 = .ok (.iload_n 1, 1) := by decide +kernel
theorem dX11_grudge_199 : decode cX11_grudge 199 = .ok (.invokevirtual 196, 3) := by decide +kernel
theorem dX11_grudge_202 : decode cX11_grudge 202 = .ok (.ireturn, 1) := by decide +kernel
theorem dX11_grudge_203 : decode cX11_grudge 203 = .ok (.aload_n 0, 1) := by decide +kernel
theorem dX11_grudge_204 : decode cX11_grudge 204 = .ok (.getfield 42, 3) := by decide +kernel
theorem dX11_grudge_207 : decode cX11_grudge 207 = .ok (.aload_n 0, 1) := by decide +kernel
theorem dX11_grudge_208 : decode cX11_grudge 208 = .ok (.getfield 52, 3) := by decide +kernel
theorem dX11_grudge_211 : decode cX11_grudge 211 = .ok (.sipush 1025, 3) := by decide +kernel
theorem dX11_grudge_214 : decode cX11_grudge 214 = .ok (.iload_n 1, 1) := by decide +kernel
theorem dX11_grudge_215 : decode cX11_grudge 215 = .ok (.invokevirtual 196, 3) := by decide +kernel
theorem dX11_grudge_218 : decode cX11_grudge 218 = .ok (.ireturn, 1) := by decide +kernel
theorem dX11_grudge_219 : decode cX11_grudge 219 = .ok (.aload_n 0, 1) := by decide +kernel
theorem dX11_grudge_220 : decode cX11_grudge 220 = .ok (.getfield 42, 3) := by decide +kernel
theorem dX11_grudge_223 : decode cX11_grudge 223 = .ok (.getfield 150, 3) := by decide +kernel
theorem dX11_grudge_226 : decode cX11_grudge 226 = .ok (.iload_n 1, 1) := by decide +kernel
theorem dX11_grudge_227 : decode cX11_grudge 227 = .ok (.invokevirtual 200, 3) := by decide +kernel
theorem dX11_grudge_230 : decode cX11_grudge 230 = .ok (.ireturn, 1) := by decide +kernel
theorem dX11_grudge_231 : decode cX11_grudge 231 = .ok (.new 166, 3) := by decide +kernel
theorem dX11_grudge_234 : decode cX11_grudge 234 = .ok (.dup, 1) := by decide +kernel
theorem dX11_grudge_235 : decode cX11_grudge 235 = .ok (.ldc 168, 2) := by decide +kernel
theorem dX11_grudge_237 : decode cX11_grudge 237 = .ok (.invokespecial 170, 3) := by decide +kernel
theorem dX11_grudge_240 : decode cX11_grudge 240 = .ok (.athrow, 1) := by decide +kernel
theorem dX11_slight_0 : decode cX11_slight 0 = .ok (.aload_n 0, 1) := by decide +kernel
theorem dX11_slight_1 : decode cX11_slight 1 = .ok (.iload_n 1, 1) := by decide +kernel
theorem dX11_slight_2 : decode cX11_slight 2 = .ok (.invokevirtual 203, 3) := by decide +kernel
theorem dX11_slight_5 : decode cX11_slight 5 = .ok (.iload_n 2, 1) := by decide +kernel
theorem dX11_slight_6 : decode cX11_slight 6 = .ok (.tableswitch 58 0 2 #[26, 36, 46], 26) := by decide +kernel
theorem dX11_slight_32 : decode cX11_slight 32 = .ok (.aload_n 0, 1) := by decide +kernel
theorem dX11_slight_33 : decode cX11_slight 33 = .ok (.getfield 42, 3) := by decide +kernel
theorem dX11_slight_36 : decode cX11_slight 36 = .ok (.getfield 206, 3) := by decide +kernel
theorem dX11_slight_39 : decode cX11_slight 39 = .ok (.iload_n 1, 1) := by decide +kernel
theorem dX11_slight_40 : decode cX11_slight 40 = .ok (.iaload, 1) := by decide +kernel
theorem dX11_slight_41 : decode cX11_slight 41 = .ok (.ireturn, 1) := by decide +kernel
theorem dX11_slight_42 : decode cX11_slight 42 = .ok (.aload_n 0, 1) := by decide +kernel
theorem dX11_slight_43 : decode cX11_slight 43 = .ok (.getfield 42, 3) := by decide +kernel
theorem dX11_slight_46 : decode cX11_slight 46 = .ok (.getfield 209, 3) := by decide +kernel
theorem dX11_slight_49 : decode cX11_slight 49 = .ok (.iload_n 1, 1) := by decide +kernel
theorem dX11_slight_50 : decode cX11_slight 50 = .ok (.iaload, 1) := by decide +kernel
theorem dX11_slight_51 : decode cX11_slight 51 = .ok (.ireturn, 1) := by decide +kernel
theorem dX11_slight_52 : decode cX11_slight 52 = .ok (.aload_n 0, 1) := by decide +kernel
theorem dX11_slight_53 : decode cX11_slight 53 = .ok (.getfield 42, 3) := by decide +kernel
theorem dX11_slight_56 : decode cX11_slight 56 = .ok (.getfield 150, 3) := by decide +kernel
theorem dX11_slight_59 : decode cX11_slight 59 = .ok (.iload_n 1, 1) := by decide +kernel
theorem dX11_slight_60 : decode cX11_slight 60 = .ok (.invokevirtual 212, 3) := by decide +kernel
theorem dX11_slight_63 : decode cX11_slight 63 = .ok (.ireturn, 1) := by decide +kernel
theorem dX11_slight_64 : decode cX11_slight 64 = .ok (.new 166, 3) := by decide +kernel
theorem dX11_slight_67 : decode cX11_slight 67 = .ok (.dup, 1) := by decide +kernel
theorem dX11_slight_68 : decode cX11_slight 68 = .ok (.ldc 168, 2) := by decide +kernel
theorem dX11_slight_70 : decode cX11_slight 70 = .ok (.invokespecial 170, 3) := by decide +kernel
theorem dX11_slight_73 : decode cX11_slight 73 = .ok (.athrow, 1) := by decide +kernel
theorem dX11_heat_0 : decode cX11_heat 0 = .ok (.iload_n 1, 1) := by decide +kernel
theorem dX11_heat_1 : decode cX11_heat 1 = .ok (.ifCond .lt 8, 3) := by decide +kernel
theorem dX11_heat_4 : decode cX11_heat 4 = .ok (.iload_n 1, 1) := by decide +kernel
theorem dX11_heat_5 : decode cX11_heat 5 = .ok (.iconst 4, 1) := by decide +kernel
theorem dX11_heat_6 : decode cX11_heat 6 = .ok (.if_icmp .lt 13, 3) := by decide +kernel
theorem dX11_heat_9 : decode cX11_heat 9 = .ok (.new 215, 3) := by decide +kernel
theorem dX11_heat_12 : decode cX11_heat 12 = .ok (.dup, 1) := by decide +kernel
theorem dX11_heat_13 : decode cX11_heat 13 = .ok (.ldc 217, 2) := by decide +kernel
theorem dX11_heat_15 : decode cX11_heat 15 = .ok (.invokespecial 219, 3) := by decide +kernel
theorem dX11_heat_18 : decode cX11_heat 18 = .ok (.athrow, 1) := by decide +kernel
theorem dX11_heat_19 : decode cX11_heat 19 = .ok (.aload_n 0, 1) := by decide +kernel
theorem dX11_heat_20 : decode cX11_heat 20 = .ok (.getfield 42, 3) := by decide +kernel
theorem dX11_heat_23 : decode cX11_heat 23 = .ok (.getfield 220, 3) := by decide +kernel
theorem dX11_heat_26 : decode cX11_heat 26 = .ok (.iload_n 1, 1) := by decide +kernel
theorem dX11_heat_27 : decode cX11_heat 27 = .ok (.iaload, 1) := by decide +kernel
theorem dX11_heat_28 : decode cX11_heat 28 = .ok (.ireturn, 1) := by decide +kernel
theorem dX11_seasons_0 : decode cX11_seasons 0 = .ok (.aload_n 0, 1) := by decide +kernel
theorem dX11_seasons_1 : decode cX11_seasons 1 = .ok (.iload_n 1, 1) := by decide +kernel
theorem dX11_seasons_2 : decode cX11_seasons 2 = .ok (.iconst 1, 1) := by decide +kernel
theorem dX11_seasons_3 : decode cX11_seasons 3 = .ok (.bipush 60, 2) := by decide +kernel
theorem dX11_seasons_5 : decode cX11_seasons 5 = .ok (.invokevirtual 223, 3) := by decide +kernel
theorem dX11_seasons_8 : decode cX11_seasons 8 = .ok (.aload_n 0, 1) := by decide +kernel
theorem dX11_seasons_9 : decode cX11_seasons 9 = .ok (.getfield 62, 3) := by decide +kernel
theorem dX11_seasons_12 : decode cX11_seasons 12 = .ok (.aload_n 0, 1) := by decide +kernel
theorem dX11_seasons_13 : decode cX11_seasons 13 = .ok (.getfield 42, 3) := by decide +kernel
theorem dX11_seasons_16 : decode cX11_seasons 16 = .ok (.invokevirtual 227, 3) := by decide +kernel
theorem dX11_seasons_19 : decode cX11_seasons 19 = .ok (.iconst 0, 1) := by decide +kernel
theorem dX11_seasons_20 : decode cX11_seasons 20 = .ok (.istore_n 2, 1) := by decide +kernel
theorem dX11_seasons_21 : decode cX11_seasons 21 = .ok (.iconst 0, 1) := by decide +kernel
theorem dX11_seasons_22 : decode cX11_seasons 22 = .ok (.istore_n 3, 1) := by decide +kernel
theorem dX11_seasons_23 : decode cX11_seasons 23 = .ok (.iload_n 3, 1) := by decide +kernel
theorem dX11_seasons_24 : decode cX11_seasons 24 = .ok (.iload_n 1, 1) := by decide +kernel
theorem dX11_seasons_25 : decode cX11_seasons 25 = .ok (.if_icmp .ge 24, 3) := by decide +kernel
theorem dX11_seasons_28 : decode cX11_seasons 28 = .ok (.iload_n 2, 1) := by decide +kernel
theorem dX11_seasons_29 : decode cX11_seasons 29 = .ok (.aload_n 0, 1) := by decide +kernel
theorem dX11_seasons_30 : decode cX11_seasons 30 = .ok (.getfield 42, 3) := by decide +kernel
theorem dX11_seasons_33 : decode cX11_seasons 33 = .ok (.aload_n 0, 1) := by decide +kernel
theorem dX11_seasons_34 : decode cX11_seasons 34 = .ok (.getfield 52, 3) := by decide +kernel
theorem dX11_seasons_37 : decode cX11_seasons 37 = .ok (.iconst 1, 1) := by decide +kernel
theorem dX11_seasons_38 : decode cX11_seasons 38 = .ok (.invokevirtual 230, 3) := by decide +kernel
theorem dX11_seasons_41 : decode cX11_seasons 41 = .ok (.iadd, 1) := by decide +kernel
theorem dX11_seasons_42 : decode cX11_seasons 42 = .ok (.istore_n 2, 1) := by decide +kernel
theorem dX11_seasons_43 : decode cX11_seasons 43 = .ok (.iinc 3 1, 3) := by decide +kernel
theorem dX11_seasons_46 : decode cX11_seasons 46 = .ok (.goto (-23), 3) := by decide +kernel
theorem dX11_seasons_49 : decode cX11_seasons 49 = .ok (.iload_n 2, 1) := by decide +kernel
theorem dX11_seasons_50 : decode cX11_seasons 50 = .ok (.ireturn, 1) := by decide +kernel
theorem dX11_insult_0 : decode cX11_insult 0 = .ok (.aload_n 0, 1) := by decide +kernel
theorem dX11_insult_1 : decode cX11_insult 1 = .ok (.iload_n 1, 1) := by decide +kernel
theorem dX11_insult_2 : decode cX11_insult 2 = .ok (.invokevirtual 128, 3) := by decide +kernel
theorem dX11_insult_5 : decode cX11_insult 5 = .ok (.aload_n 0, 1) := by decide +kernel
theorem dX11_insult_6 : decode cX11_insult 6 = .ok (.iload_n 2, 1) := by decide +kernel
theorem dX11_insult_7 : decode cX11_insult 7 = .ok (.invokevirtual 128, 3) := by decide +kernel
theorem dX11_insult_10 : decode cX11_insult 10 = .ok (.aload_n 0, 1) := by decide +kernel
theorem dX11_insult_11 : decode cX11_insult 11 = .ok (.iload_n 3, 1) := by decide +kernel
theorem dX11_insult_12 : decode cX11_insult 12 = .ok (.invokevirtual 203, 3) := by decide +kernel
theorem dX11_insult_15 : decode cX11_insult 15 = .ok (.aload_n 0, 1) := by decide +kernel
theorem dX11_insult_16 : decode cX11_insult 16 = .ok (.iload_n 1, 1) := by decide +kernel
theorem dX11_insult_17 : decode cX11_insult 17 = .ok (.iload_n 2, 1) := by decide +kernel
theorem dX11_insult_18 : decode cX11_insult 18 = .ok (.invokevirtual 234, 3) := by decide +kernel
theorem dX11_insult_21 : decode cX11_insult 21 = .ok (.aload_n 0, 1) := by decide +kernel
theorem dX11_insult_22 : decode cX11_insult 22 = .ok (.getfield 42, 3) := by decide +kernel
theorem dX11_insult_25 : decode cX11_insult 25 = .ok (.getfield 150, 3) := by decide +kernel
theorem dX11_insult_28 : decode cX11_insult 28 = .ok (.iload_n 1, 1) := by decide +kernel
theorem dX11_insult_29 : decode cX11_insult 29 = .ok (.iload_n 2, 1) := by decide +kernel
theorem dX11_insult_30 : decode cX11_insult 30 = .ok (.invokevirtual 238, 3) := by decide +kernel
theorem dX11_insult_33 : decode cX11_insult 33 = .ok (.istore 4, 2) := by decide +kernel
theorem dX11_insult_35 : decode cX11_insult 35 = .ok (.iload 4, 2) := by decide +kernel
theorem dX11_insult_37 : decode cX11_insult 37 = .ok (.iconst (-1), 1) := by decide +kernel
theorem dX11_insult_38 : decode cX11_insult 38 = .ok (.if_icmp .ne 28, 3) := by decide +kernel
theorem dX11_insult_41 : decode cX11_insult 41 = .ok (.aload_n 0, 1) := by decide +kernel
theorem dX11_insult_42 : decode cX11_insult 42 = .ok (.getfield 42, 3) := by decide +kernel
theorem dX11_insult_45 : decode cX11_insult 45 = .ok (.getfield 150, 3) := by decide +kernel
theorem dX11_insult_48 : decode cX11_insult 48 = .ok (.getfield 242, 3) := by decide +kernel
theorem dX11_insult_51 : decode cX11_insult 51 = .ok (.bipush 10, 2) := by decide +kernel
theorem dX11_insult_53 : decode cX11_insult 53 = .ok (.if_icmp .lt 13, 3) := by decide +kernel
theorem dX11_insult_56 : decode cX11_insult 56 = .ok (.new 245, 3) := by decide +kernel
theorem dX11_insult_59 : decode cX11_insult 59 = .ok (.dup, 1) := by decide +kernel
theorem dX11_insult_60 : decode cX11_insult 60 = .ok (.ldc 247, 2) := by decide +kernel
theorem dX11_insult_62 : decode cX11_insult 62 = .ok (.invokespecial 249, 3) := by decide +kernel
theorem dX11_insult_65 : decode cX11_insult 65 = .ok (.athrow, 1) := by decide +kernel
theorem dX11_insult_66 : decode cX11_insult 66 = .ok (.aload_n 0, 1) := by decide +kernel
theorem dX11_insult_67 : decode cX11_insult 67 = .ok (.getfield 62, 3) := by decide +kernel
theorem dX11_insult_70 : decode cX11_insult 70 = .ok (.aload_n 0, 1) := by decide +kernel
theorem dX11_insult_71 : decode cX11_insult 71 = .ok (.getfield 42, 3) := by decide +kernel
theorem dX11_insult_74 : decode cX11_insult 74 = .ok (.invokevirtual 227, 3) := by decide +kernel
theorem dX11_insult_77 : decode cX11_insult 77 = .ok (.bipush 10, 2) := by decide +kernel
theorem dX11_insult_79 : decode cX11_insult 79 = .ok (.aload_n 0, 1) := by decide +kernel
theorem dX11_insult_80 : decode cX11_insult 80 = .ok (.getfield 42, 3) := by decide +kernel
theorem dX11_insult_83 : decode cX11_insult 83 = .ok (.getfield 206, 3) := by decide +kernel
theorem dX11_insult_86 : decode cX11_insult 86 = .ok (.iload_n 3, 1) := by decide +kernel
theorem dX11_insult_87 : decode cX11_insult 87 = .ok (.iaload, 1) := by decide +kernel
theorem dX11_insult_88 : decode cX11_insult 88 = .ok (.iadd, 1) := by decide +kernel
theorem dX11_insult_89 : decode cX11_insult 89 = .ok (.istore 5, 2) := by decide +kernel
theorem dX11_insult_91 : decode cX11_insult 91 = .ok (.iload 4, 2) := by decide +kernel
theorem dX11_insult_93 : decode cX11_insult 93 = .ok (.iconst (-1), 1) := by decide +kernel
theorem dX11_insult_94 : decode cX11_insult 94 = .ok (.if_icmp .ne 19, 3) := by decide +kernel
theorem dX11_insult_97 : decode cX11_insult 97 = .ok (.aload_n 0, 1) := by decide +kernel
theorem dX11_insult_98 : decode cX11_insult 98 = .ok (.getfield 42, 3) := by decide +kernel
theorem dX11_insult_101 : decode cX11_insult 101 = .ok (.getfield 150, 3) := by decide +kernel
theorem dX11_insult_104 : decode cX11_insult 104 = .ok (.iload_n 1, 1) := by decide +kernel
theorem dX11_insult_105 : decode cX11_insult 105 = .ok (.iload_n 2, 1) := by decide +kernel
theorem dX11_insult_106 : decode cX11_insult 106 = .ok (.iload_n 3, 1) := by decide +kernel
theorem dX11_insult_107 : decode cX11_insult 107 = .ok (.iload 5, 2) := by decide +kernel
theorem dX11_insult_109 : decode cX11_insult 109 = .ok (.invokevirtual 250, 3) := by decide +kernel
theorem dX11_insult_112 : decode cX11_insult 112 = .ok (.ireturn, 1) := by decide +kernel
theorem dX11_insult_113 : decode cX11_insult 113 = .ok (.aload_n 0, 1) := by decide +kernel
theorem dX11_insult_114 : decode cX11_insult 114 = .ok (.getfield 42, 3) := by decide +kernel
theorem dX11_insult_117 : decode cX11_insult 117 = .ok (.getfield 150, 3) := by decide +kernel
theorem dX11_insult_120 : decode cX11_insult 120 = .ok (.iload 4, 2) := by decide +kernel
theorem dX11_insult_122 : decode cX11_insult 122 = .ok (.iload_n 3, 1) := by decide +kernel
theorem dX11_insult_123 : decode cX11_insult 123 = .ok (.iload 5, 2) := by decide +kernel
theorem dX11_insult_125 : decode cX11_insult 125 = .ok (.invokevirtual 254, 3) := by decide +kernel
theorem dX11_insult_128 : decode cX11_insult 128 = .ok (.iload 4, 2) := by decide +kernel
theorem dX11_insult_130 : decode cX11_insult 130 = .ok (.ireturn, 1) := by decide +kernel
theorem dX11_forgive_0 : decode cX11_forgive 0 = .ok (.aload_n 0, 1) := by decide +kernel
theorem dX11_forgive_1 : decode cX11_forgive 1 = .ok (.iload_n 1, 1) := by decide +kernel
theorem dX11_forgive_2 : decode cX11_forgive 2 = .ok (.invokevirtual 171, 3) := by decide +kernel
theorem dX11_forgive_5 : decode cX11_forgive 5 = .ok (.aload_n 0, 1) := by decide +kernel
theorem dX11_forgive_6 : decode cX11_forgive 6 = .ok (.iload_n 1, 1) := by decide +kernel
theorem dX11_forgive_7 : decode cX11_forgive 7 = .ok (.invokevirtual 257, 3) := by decide +kernel
theorem dX11_forgive_10 : decode cX11_forgive 10 = .ok (.aload_n 0, 1) := by decide +kernel
theorem dX11_forgive_11 : decode cX11_forgive 11 = .ok (.getfield 62, 3) := by decide +kernel
theorem dX11_forgive_14 : decode cX11_forgive 14 = .ok (.aload_n 0, 1) := by decide +kernel
theorem dX11_forgive_15 : decode cX11_forgive 15 = .ok (.getfield 42, 3) := by decide +kernel
theorem dX11_forgive_18 : decode cX11_forgive 18 = .ok (.invokevirtual 227, 3) := by decide +kernel
theorem dX11_forgive_21 : decode cX11_forgive 21 = .ok (.aload_n 0, 1) := by decide +kernel
theorem dX11_forgive_22 : decode cX11_forgive 22 = .ok (.getfield 42, 3) := by decide +kernel
theorem dX11_forgive_25 : decode cX11_forgive 25 = .ok (.getfield 150, 3) := by decide +kernel
theorem dX11_forgive_28 : decode cX11_forgive 28 = .ok (.getfield 193, 3) := by decide +kernel
theorem dX11_forgive_31 : decode cX11_forgive 31 = .ok (.iload_n 1, 1) := by decide +kernel
theorem dX11_forgive_32 : decode cX11_forgive 32 = .ok (.iconst 1, 1) := by decide +kernel
theorem dX11_forgive_33 : decode cX11_forgive 33 = .ok (.bastore, 1) := by decide +kernel
theorem dX11_forgive_34 : decode cX11_forgive 34 = .ok (.aload_n 0, 1) := by decide +kernel
theorem dX11_forgive_35 : decode cX11_forgive 35 = .ok (.getfield 42, 3) := by decide +kernel
theorem dX11_forgive_38 : decode cX11_forgive 38 = .ok (.getfield 260, 3) := by decide +kernel
theorem dX11_forgive_41 : decode cX11_forgive 41 = .ok (.aload_n 0, 1) := by decide +kernel
theorem dX11_forgive_42 : decode cX11_forgive 42 = .ok (.getfield 42, 3) := by decide +kernel
theorem dX11_forgive_45 : decode cX11_forgive 45 = .ok (.getfield 264, 3) := by decide +kernel
theorem dX11_forgive_48 : decode cX11_forgive 48 = .ok (.iload_n 1, 1) := by decide +kernel
theorem dX11_forgive_49 : decode cX11_forgive 49 = .ok (.iconst 1, 1) := by decide +kernel
theorem dX11_forgive_50 : decode cX11_forgive 50 = .ok (.iconst 0, 1) := by decide +kernel
theorem dX11_forgive_51 : decode cX11_forgive 51 = .ok (.invokevirtual 267, 3) := by decide +kernel
theorem dX11_forgive_54 : decode cX11_forgive 54 = .ok (.aload_n 0, 1) := by decide +kernel
theorem dX11_forgive_55 : decode cX11_forgive 55 = .ok (.getfield 42, 3) := by decide +kernel
theorem dX11_forgive_58 : decode cX11_forgive 58 = .ok (.getfield 150, 3) := by decide +kernel
theorem dX11_forgive_61 : decode cX11_forgive 61 = .ok (.getfield 186, 3) := by decide +kernel
theorem dX11_forgive_64 : decode cX11_forgive 64 = .ok (.iload_n 1, 1) := by decide +kernel
theorem dX11_forgive_65 : decode cX11_forgive 65 = .ok (.iaload, 1) := by decide +kernel
theorem dX11_forgive_66 : decode cX11_forgive 66 = .ok (.ireturn, 1) := by decide +kernel
theorem dX11_nurse_0 : decode cX11_nurse 0 = .ok (.aload_n 0, 1) := by decide +kernel
theorem dX11_nurse_1 : decode cX11_nurse 1 = .ok (.iload_n 1, 1) := by decide +kernel
theorem dX11_nurse_2 : decode cX11_nurse 2 = .ok (.invokevirtual 171, 3) := by decide +kernel
theorem dX11_nurse_5 : decode cX11_nurse 5 = .ok (.aload_n 0, 1) := by decide +kernel
theorem dX11_nurse_6 : decode cX11_nurse 6 = .ok (.iload_n 1, 1) := by decide +kernel
theorem dX11_nurse_7 : decode cX11_nurse 7 = .ok (.invokevirtual 257, 3) := by decide +kernel
theorem dX11_nurse_10 : decode cX11_nurse 10 = .ok (.aload_n 0, 1) := by decide +kernel
theorem dX11_nurse_11 : decode cX11_nurse 11 = .ok (.getfield 62, 3) := by decide +kernel
theorem dX11_nurse_14 : decode cX11_nurse 14 = .ok (.aload_n 0, 1) := by decide +kernel
theorem dX11_nurse_15 : decode cX11_nurse 15 = .ok (.getfield 42, 3) := by decide +kernel
theorem dX11_nurse_18 : decode cX11_nurse 18 = .ok (.invokevirtual 227, 3) := by decide +kernel
theorem dX11_nurse_21 : decode cX11_nurse 21 = .ok (.aload_n 0, 1) := by decide +kernel
theorem dX11_nurse_22 : decode cX11_nurse 22 = .ok (.getfield 42, 3) := by decide +kernel
theorem dX11_nurse_25 : decode cX11_nurse 25 = .ok (.getfield 150, 3) := by decide +kernel
theorem dX11_nurse_28 : decode cX11_nurse 28 = .ok (.getfield 189, 3) := by decide +kernel
theorem dX11_nurse_31 : decode cX11_nurse 31 = .ok (.iload_n 1, 1) := by decide +kernel
theorem dX11_nurse_32 : decode cX11_nurse 32 = .ok (.baload, 1) := by decide +kernel
theorem dX11_nurse_33 : decode cX11_nurse 33 = .ok (.iload_n 2, 1) := by decide +kernel
theorem dX11_nurse_34 : decode cX11_nurse 34 = .ok (.if_icmp .eq 7, 3) := by decide +kernel
theorem dX11_nurse_37 : decode cX11_nurse 37 = .ok (.iconst 1, 1) := by decide +kernel
theorem dX11_nurse_38 : decode cX11_nurse 38 = .ok (.goto 4, 3) := by decide +kernel
theorem dX11_nurse_41 : decode cX11_nurse 41 = .ok (.iconst 0, 1) := by decide +kernel
theorem dX11_nurse_42 : decode cX11_nurse 42 = .ok (.istore_n 3, 1) := by decide +kernel
theorem dX11_nurse_43 : decode cX11_nurse 43 = .ok (.aload_n 0, 1) := by decide +kernel
theorem dX11_nurse_44 : decode cX11_nurse 44 = .ok (.getfield 42, 3) := by decide +kernel
theorem dX11_nurse_47 : decode cX11_nurse 47 = .ok (.getfield 150, 3) := by decide +kernel
theorem dX11_nurse_50 : decode cX11_nurse 50 = .ok (.getfield 189, 3) := by decide +kernel
theorem dX11_nurse_53 : decode cX11_nurse 53 = .ok (.iload_n 1, 1) := by decide +kernel
theorem dX11_nurse_54 : decode cX11_nurse 54 = .ok (.iload_n 2, 1) := by decide +kernel
theorem dX11_nurse_55 : decode cX11_nurse 55 = .ok (.bastore, 1) := by decide +kernel
theorem dX11_nurse_56 : decode cX11_nurse 56 = .ok (.iload_n 3, 1) := by decide +kernel
theorem dX11_nurse_57 : decode cX11_nurse 57 = .ok (.ireturn, 1) := by decide +kernel
theorem dX11_saw_0 : decode cX11_saw 0 = .ok (.aload_n 0, 1) := by decide +kernel
theorem dX11_saw_1 : decode cX11_saw 1 = .ok (.iload_n 1, 1) := by decide +kernel
theorem dX11_saw_2 : decode cX11_saw 2 = .ok (.invokevirtual 171, 3) := by decide +kernel
theorem dX11_saw_5 : decode cX11_saw 5 = .ok (.aload_n 0, 1) := by decide +kernel
theorem dX11_saw_6 : decode cX11_saw 6 = .ok (.iload_n 2, 1) := by decide +kernel
theorem dX11_saw_7 : decode cX11_saw 7 = .ok (.invokevirtual 128, 3) := by decide +kernel
theorem dX11_saw_10 : decode cX11_saw 10 = .ok (.aload_n 0, 1) := by decide +kernel
theorem dX11_saw_11 : decode cX11_saw 11 = .ok (.iload_n 3, 1) := by decide +kernel
theorem dX11_saw_12 : decode cX11_saw 12 = .ok (.iconst 1, 1) := by decide +kernel
theorem dX11_saw_13 : decode cX11_saw 13 = .ok (.sipush 999, 3) := by decide +kernel
theorem dX11_saw_16 : decode cX11_saw 16 = .ok (.invokevirtual 223, 3) := by decide +kernel
theorem dX11_saw_19 : decode cX11_saw 19 = .ok (.aload_n 0, 1) := by decide +kernel
theorem dX11_saw_20 : decode cX11_saw 20 = .ok (.iload_n 1, 1) := by decide +kernel
theorem dX11_saw_21 : decode cX11_saw 21 = .ok (.invokevirtual 257, 3) := by decide +kernel
theorem dX11_saw_24 : decode cX11_saw 24 = .ok (.aload_n 0, 1) := by decide +kernel
theorem dX11_saw_25 : decode cX11_saw 25 = .ok (.getfield 42, 3) := by decide +kernel
theorem dX11_saw_28 : decode cX11_saw 28 = .ok (.getfield 150, 3) := by decide +kernel
theorem dX11_saw_31 : decode cX11_saw 31 = .ok (.iload_n 1, 1) := by decide +kernel
theorem dX11_saw_32 : decode cX11_saw 32 = .ok (.iload_n 2, 1) := by decide +kernel
theorem dX11_saw_33 : decode cX11_saw 33 = .ok (.invokevirtual 272, 3) := by decide +kernel
theorem dX11_saw_36 : decode cX11_saw 36 = .ok (.ifCond .eq 14, 3) := by decide +kernel
theorem dX11_saw_39 : decode cX11_saw 39 = .ok (.new 245, 3) := by decide +kernel
theorem dX11_saw_42 : decode cX11_saw 42 = .ok (.dup, 1) := by decide +kernel
theorem dX11_saw_43 : decode cX11_saw 43 = .ok (.ldc_w 276, 3) := by decide +kernel
theorem dX11_saw_46 : decode cX11_saw 46 = .ok (.invokespecial 249, 3) := by decide +kernel
theorem dX11_saw_49 : decode cX11_saw 49 = .ok (.athrow, 1) := by decide +kernel
theorem dX11_saw_50 : decode cX11_saw 50 = .ok (.aload_n 0, 1) := by decide +kernel
theorem dX11_saw_51 : decode cX11_saw 51 = .ok (.iload_n 1, 1) := by decide +kernel
theorem dX11_saw_52 : decode cX11_saw 52 = .ok (.iload_n 3, 1) := by decide +kernel
theorem dX11_saw_53 : decode cX11_saw 53 = .ok (.invokevirtual 278, 3) := by decide +kernel
theorem dX11_saw_56 : decode cX11_saw 56 = .ok (.aload_n 0, 1) := by decide +kernel
theorem dX11_saw_57 : decode cX11_saw 57 = .ok (.getfield 62, 3) := by decide +kernel
theorem dX11_saw_60 : decode cX11_saw 60 = .ok (.aload_n 0, 1) := by decide +kernel
theorem dX11_saw_61 : decode cX11_saw 61 = .ok (.getfield 42, 3) := by decide +kernel
theorem dX11_saw_64 : decode cX11_saw 64 = .ok (.invokevirtual 227, 3) := by decide +kernel
theorem dX11_saw_67 : decode cX11_saw 67 = .ok (.aload_n 0, 1) := by decide +kernel
theorem dX11_saw_68 : decode cX11_saw 68 = .ok (.getfield 42, 3) := by decide +kernel
theorem dX11_saw_71 : decode cX11_saw 71 = .ok (.iload_n 1, 1) := by decide +kernel
theorem dX11_saw_72 : decode cX11_saw 72 = .ok (.iconst 2, 1) := by decide +kernel
theorem dX11_saw_73 : decode cX11_saw 73 = .ok (.iload_n 3, 1) := by decide +kernel
theorem dX11_saw_74 : decode cX11_saw 74 = .ok (.invokevirtual 281, 3) := by decide +kernel
theorem dX11_saw_77 : decode cX11_saw 77 = .ok (.aload_n 0, 1) := by decide +kernel
theorem dX11_saw_78 : decode cX11_saw 78 = .ok (.getfield 42, 3) := by decide +kernel
theorem dX11_saw_81 : decode cX11_saw 81 = .ok (.getfield 131, 3) := by decide +kernel
theorem dX11_saw_84 : decode cX11_saw 84 = .ok (.iload_n 2, 1) := by decide +kernel
theorem dX11_saw_85 : decode cX11_saw 85 = .ok (.iload_n 3, 1) := by decide +kernel
theorem dX11_saw_86 : decode cX11_saw 86 = .ok (.invokevirtual 284, 3) := by decide +kernel
theorem dX11_saw_89 : decode cX11_saw 89 = .ok (.aload_n 0, 1) := by decide +kernel
theorem dX11_saw_90 : decode cX11_saw 90 = .ok (.getfield 42, 3) := by decide +kernel
theorem dX11_saw_93 : decode cX11_saw 93 = .ok (.getfield 150, 3) := by decide +kernel
theorem dX11_saw_96 : decode cX11_saw 96 = .ok (.getfield 186, 3) := by decide +kernel
theorem dX11_saw_99 : decode cX11_saw 99 = .ok (.iload_n 1, 1) := by decide +kernel
theorem dX11_saw_100 : decode cX11_saw 100 = .ok (.iaload, 1) := by decide +kernel
theorem dX11_saw_101 : decode cX11_saw 101 = .ok (.ireturn, 1) := by decide +kernel
theorem dX11_store_0 : decode cX11_store 0 = .ok (.aload_n 0, 1) := by decide +kernel
theorem dX11_store_1 : decode cX11_store 1 = .ok (.iload_n 1, 1) := by decide +kernel
theorem dX11_store_2 : decode cX11_store 2 = .ok (.invokevirtual 171, 3) := by decide +kernel
theorem dX11_store_5 : decode cX11_store 5 = .ok (.aload_n 0, 1) := by decide +kernel
theorem dX11_store_6 : decode cX11_store 6 = .ok (.iload_n 2, 1) := by decide +kernel
theorem dX11_store_7 : decode cX11_store 7 = .ok (.iconst 1, 1) := by decide +kernel
theorem dX11_store_8 : decode cX11_store 8 = .ok (.sipush 999, 3) := by decide +kernel
theorem dX11_store_11 : decode cX11_store 11 = .ok (.invokevirtual 223, 3) := by decide +kernel
theorem dX11_store_14 : decode cX11_store 14 = .ok (.aload_n 0, 1) := by decide +kernel
theorem dX11_store_15 : decode cX11_store 15 = .ok (.iload_n 1, 1) := by decide +kernel
theorem dX11_store_16 : decode cX11_store 16 = .ok (.invokevirtual 257, 3) := by decide +kernel
theorem dX11_store_19 : decode cX11_store 19 = .ok (.aload_n 0, 1) := by decide +kernel
theorem dX11_store_20 : decode cX11_store 20 = .ok (.iload_n 1, 1) := by decide +kernel
theorem dX11_store_21 : decode cX11_store 21 = .ok (.iload_n 2, 1) := by decide +kernel
theorem dX11_store_22 : decode cX11_store 22 = .ok (.invokevirtual 278, 3) := by decide +kernel
theorem dX11_store_25 : decode cX11_store 25 = .ok (.aload_n 0, 1) := by decide +kernel
theorem dX11_store_26 : decode cX11_store 26 = .ok (.getfield 62, 3) := by decide +kernel
theorem dX11_store_29 : decode cX11_store 29 = .ok (.aload_n 0, 1) := by decide +kernel
theorem dX11_store_30 : decode cX11_store 30 = .ok (.getfield 42, 3) := by decide +kernel
theorem dX11_store_33 : decode cX11_store 33 = .ok (.invokevirtual 227, 3) := by decide +kernel
theorem dX11_store_36 : decode cX11_store 36 = .ok (.aload_n 0, 1) := by decide +kernel
theorem dX11_store_37 : decode cX11_store 37 = .ok (.getfield 42, 3) := by decide +kernel
theorem dX11_store_40 : decode cX11_store 40 = .ok (.iload_n 1, 1) := by decide +kernel
theorem dX11_store_41 : decode cX11_store 41 = .ok (.iconst 3, 1) := by decide +kernel
theorem dX11_store_42 : decode cX11_store 42 = .ok (.iload_n 2, 1) := by decide +kernel
theorem dX11_store_43 : decode cX11_store 43 = .ok (.invokevirtual 281, 3) := by decide +kernel
theorem dX11_store_46 : decode cX11_store 46 = .ok (.aload_n 0, 1) := by decide +kernel
theorem dX11_store_47 : decode cX11_store 47 = .ok (.getfield 42, 3) := by decide +kernel
theorem dX11_store_50 : decode cX11_store 50 = .ok (.sipush 9999, 3) := by decide +kernel
theorem dX11_store_53 : decode cX11_store 53 = .ok (.aload_n 0, 1) := by decide +kernel
theorem dX11_store_54 : decode cX11_store 54 = .ok (.getfield 42, 3) := by decide +kernel
theorem dX11_store_57 : decode cX11_store 57 = .ok (.getfield 287, 3) := by decide +kernel
theorem dX11_store_60 : decode cX11_store 60 = .ok (.iload_n 2, 1) := by decide +kernel
theorem dX11_store_61 : decode cX11_store 61 = .ok (.iadd, 1) := by decide +kernel
theorem dX11_store_62 : decode cX11_store 62 = .ok (.invokestatic 290, 3) := by decide +kernel
theorem dX11_store_65 : decode cX11_store 65 = .ok (.putfield 287, 3) := by decide +kernel
theorem dX11_store_68 : decode cX11_store 68 = .ok (.aload_n 0, 1) := by decide +kernel
theorem dX11_store_69 : decode cX11_store 69 = .ok (.getfield 42, 3) := by decide +kernel
theorem dX11_store_72 : decode cX11_store 72 = .ok (.getfield 287, 3) := by decide +kernel
theorem dX11_store_75 : decode cX11_store 75 = .ok (.ireturn, 1) := by decide +kernel
theorem dX11_deliver_0 : decode cX11_deliver 0 = .ok (.aload_n 0, 1) := by decide +kernel
theorem dX11_deliver_1 : decode cX11_deliver 1 = .ok (.iload_n 1, 1) := by decide +kernel
theorem dX11_deliver_2 : decode cX11_deliver 2 = .ok (.invokevirtual 128, 3) := by decide +kernel
theorem dX11_deliver_5 : decode cX11_deliver 5 = .ok (.aload_n 0, 1) := by decide +kernel
theorem dX11_deliver_6 : decode cX11_deliver 6 = .ok (.iload_n 2, 1) := by decide +kernel
theorem dX11_deliver_7 : decode cX11_deliver 7 = .ok (.iconst 1, 1) := by decide +kernel
theorem dX11_deliver_8 : decode cX11_deliver 8 = .ok (.sipush 999, 3) := by decide +kernel
theorem dX11_deliver_11 : decode cX11_deliver 11 = .ok (.invokevirtual 223, 3) := by decide +kernel
theorem dX11_deliver_14 : decode cX11_deliver 14 = .ok (.aload_n 0, 1) := by decide +kernel
theorem dX11_deliver_15 : decode cX11_deliver 15 = .ok (.getfield 42, 3) := by decide +kernel
theorem dX11_deliver_18 : decode cX11_deliver 18 = .ok (.getfield 287, 3) := by decide +kernel
theorem dX11_deliver_21 : decode cX11_deliver 21 = .ok (.iload_n 2, 1) := by decide +kernel
theorem dX11_deliver_22 : decode cX11_deliver 22 = .ok (.if_icmp .ge 14, 3) := by decide +kernel
theorem dX11_deliver_25 : decode cX11_deliver 25 = .ok (.new 245, 3) := by decide +kernel
theorem dX11_deliver_28 : decode cX11_deliver 28 = .ok (.dup, 1) := by decide +kernel
theorem dX11_deliver_29 : decode cX11_deliver 29 = .ok (.ldc_w 295, 3) := by decide +kernel
theorem dX11_deliver_32 : decode cX11_deliver 32 = .ok (.invokespecial 249, 3) := by decide +kernel
theorem dX11_deliver_35 : decode cX11_deliver 35 = .ok (.athrow, 1) := by decide +kernel
theorem dX11_deliver_36 : decode cX11_deliver 36 = .ok (.aload_n 0, 1) := by decide +kernel
theorem dX11_deliver_37 : decode cX11_deliver 37 = .ok (.getfield 62, 3) := by decide +kernel
theorem dX11_deliver_40 : decode cX11_deliver 40 = .ok (.aload_n 0, 1) := by decide +kernel
theorem dX11_deliver_41 : decode cX11_deliver 41 = .ok (.getfield 42, 3) := by decide +kernel
theorem dX11_deliver_44 : decode cX11_deliver 44 = .ok (.invokevirtual 227, 3) := by decide +kernel
theorem dX11_deliver_47 : decode cX11_deliver 47 = .ok (.aload_n 0, 1) := by decide +kernel
theorem dX11_deliver_48 : decode cX11_deliver 48 = .ok (.getfield 42, 3) := by decide +kernel
theorem dX11_deliver_51 : decode cX11_deliver 51 = .ok (.dup, 1) := by decide +kernel
theorem dX11_deliver_52 : decode cX11_deliver 52 = .ok (.getfield 287, 3) := by decide +kernel
theorem dX11_deliver_55 : decode cX11_deliver 55 = .ok (.iload_n 2, 1) := by decide +kernel
theorem dX11_deliver_56 : decode cX11_deliver 56 = .ok (.isub, 1) := by decide +kernel
theorem dX11_deliver_57 : decode cX11_deliver 57 = .ok (.putfield 287, 3) := by decide +kernel
theorem dX11_deliver_60 : decode cX11_deliver 60 = .ok (.aload_n 0, 1) := by decide +kernel
theorem dX11_deliver_61 : decode cX11_deliver 61 = .ok (.getfield 42, 3) := by decide +kernel
theorem dX11_deliver_64 : decode cX11_deliver 64 = .ok (.getfield 131, 3) := by decide +kernel
theorem dX11_deliver_67 : decode cX11_deliver 67 = .ok (.iload_n 1, 1) := by decide +kernel
theorem dX11_deliver_68 : decode cX11_deliver 68 = .ok (.iload_n 2, 1) := by decide +kernel
theorem dX11_deliver_69 : decode cX11_deliver 69 = .ok (.invokevirtual 284, 3) := by decide +kernel
theorem dX11_deliver_72 : decode cX11_deliver 72 = .ok (.aload_n 0, 1) := by decide +kernel
theorem dX11_deliver_73 : decode cX11_deliver 73 = .ok (.getfield 42, 3) := by decide +kernel
theorem dX11_deliver_76 : decode cX11_deliver 76 = .ok (.getfield 131, 3) := by decide +kernel
theorem dX11_deliver_79 : decode cX11_deliver 79 = .ok (.getfield 144, 3) := by decide +kernel
theorem dX11_deliver_82 : decode cX11_deliver 82 = .ok (.iload_n 1, 1) := by decide +kernel
theorem dX11_deliver_83 : decode cX11_deliver 83 = .ok (.iaload, 1) := by decide +kernel
theorem dX11_deliver_84 : decode cX11_deliver 84 = .ok (.ireturn, 1) := by decide +kernel
theorem dX11_prop_0 : decode cX11_prop 0 = .ok (.aload_n 0, 1) := by decide +kernel
theorem dX11_prop_1 : decode cX11_prop 1 = .ok (.getfield 62, 3) := by decide +kernel
theorem dX11_prop_4 : decode cX11_prop 4 = .ok (.aload_n 0, 1) := by decide +kernel
theorem dX11_prop_5 : decode cX11_prop 5 = .ok (.getfield 42, 3) := by decide +kernel
theorem dX11_prop_8 : decode cX11_prop 8 = .ok (.invokevirtual 227, 3) := by decide +kernel
theorem dX11_prop_11 : decode cX11_prop 11 = .ok (.aload_n 0, 1) := by decide +kernel
theorem dX11_prop_12 : decode cX11_prop 12 = .ok (.getfield 42, 3) := by decide +kernel
theorem dX11_prop_15 : decode cX11_prop 15 = .ok (.getfield 297, 3) := by decide +kernel
theorem dX11_prop_18 : decode cX11_prop 18 = .ok (.iload_n 1, 1) := by decide +kernel
theorem dX11_prop_19 : decode cX11_prop 19 = .ok (.if_icmp .eq 7, 3) := by decide +kernel
theorem dX11_prop_22 : decode cX11_prop 22 = .ok (.iconst 1, 1) := by decide +kernel
theorem dX11_prop_23 : decode cX11_prop 23 = .ok (.goto 4, 3) := by decide +kernel
theorem dX11_prop_26 : decode cX11_prop 26 = .ok (.iconst 0, 1) := by decide +kernel
theorem dX11_prop_27 : decode cX11_prop 27 = .ok (.istore_n 2, 1) := by decide +kernel
theorem dX11_prop_28 : decode cX11_prop 28 = .ok (.aload_n 0, 1) := by decide +kernel
theorem dX11_prop_29 : decode cX11_prop 29 = .ok (.getfield 42, 3) := by decide +kernel
theorem dX11_prop_32 : decode cX11_prop 32 = .ok (.iload_n 1, 1) := by decide +kernel
theorem dX11_prop_33 : decode cX11_prop 33 = .ok (.putfield 297, 3) := by decide +kernel
theorem dX11_prop_36 : decode cX11_prop 36 = .ok (.iload_n 2, 1) := by decide +kernel
theorem dX11_prop_37 : decode cX11_prop 37 = .ok (.ireturn, 1) := by decide +kernel
theorem dX11_cold_0 : decode cX11_cold 0 = .ok (.aload_n 0, 1) := by decide +kernel
theorem dX11_cold_1 : decode cX11_cold 1 = .ok (.getfield 42, 3) := by decide +kernel
theorem dX11_cold_4 : decode cX11_cold 4 = .ok (.getfield 150, 3) := by decide +kernel
theorem dX11_cold_7 : decode cX11_cold 7 = .ok (.invokevirtual 300, 3) := by decide +kernel
theorem dX11_cold_10 : decode cX11_cold 10 = .ok (.aload_n 0, 1) := by decide +kernel
theorem dX11_cold_11 : decode cX11_cold 11 = .ok (.getfield 42, 3) := by decide +kernel
theorem dX11_cold_14 : decode cX11_cold 14 = .ok (.getfield 287, 3) := by decide +kernel
theorem dX11_cold_17 : decode cX11_cold 17 = .ok (.iadd, 1) := by decide +kernel
theorem dX11_cold_18 : decode cX11_cold 18 = .ok (.ireturn, 1) := by decide +kernel
theorem dX11_stock_0 : decode cX11_stock 0 = .ok (.aload_n 0, 1) := by decide +kernel
theorem dX11_stock_1 : decode cX11_stock 1 = .ok (.getfield 46, 3) := by decide +kernel
theorem dX11_stock_4 : decode cX11_stock 4 = .ok (.aload_n 0, 1) := by decide +kernel
theorem dX11_stock_5 : decode cX11_stock 5 = .ok (.getfield 42, 3) := by decide +kernel
theorem dX11_stock_8 : decode cX11_stock 8 = .ok (.invokevirtual 95, 3) := by decide +kernel
theorem dX11_stock_11 : decode cX11_stock 11 = .ok (.iconst 0, 1) := by decide +kernel
theorem dX11_stock_12 : decode cX11_stock 12 = .ok (.istore_n 1, 1) := by decide +kernel
theorem dX11_stock_13 : decode cX11_stock 13 = .ok (.iload_n 1, 1) := by decide +kernel
theorem dX11_stock_14 : decode cX11_stock 14 = .ok (.bipush 60, 2) := by decide +kernel
theorem dX11_stock_16 : decode cX11_stock 16 = .ok (.if_icmp .gt 35, 3) := by decide +kernel
theorem dX11_stock_19 : decode cX11_stock 19 = .ok (.aload_n 0, 1) := by decide +kernel
theorem dX11_stock_20 : decode cX11_stock 20 = .ok (.getfield 46, 3) := by decide +kernel
theorem dX11_stock_23 : decode cX11_stock 23 = .ok (.getfield 287, 3) := by decide +kernel
theorem dX11_stock_26 : decode cX11_stock 26 = .ok (.ifCond .ne 5, 3) := by decide +kernel
theorem dX11_stock_29 : decode cX11_stock 29 = .ok (.iload_n 1, 1) := by decide +kernel
theorem dX11_stock_30 : decode cX11_stock 30 = .ok (.ireturn, 1) := by decide +kernel
theorem dX11_stock_31 : decode cX11_stock 31 = .ok (.aload_n 0, 1) := by decide +kernel
theorem dX11_stock_32 : decode cX11_stock 32 = .ok (.getfield 46, 3) := by decide +kernel
theorem dX11_stock_35 : decode cX11_stock 35 = .ok (.invokevirtual 304, 3) := by decide +kernel
theorem dX11_stock_38 : decode cX11_stock 38 = .ok (.aload_n 0, 1) := by decide +kernel
theorem dX11_stock_39 : decode cX11_stock 39 = .ok (.getfield 46, 3) := by decide +kernel
theorem dX11_stock_42 : decode cX11_stock 42 = .ok (.invokevirtual 307, 3) := by decide +kernel
theorem dX11_stock_45 : decode cX11_stock 45 = .ok (.iinc 1 1, 3) := by decide +kernel
theorem dX11_stock_48 : decode cX11_stock 48 = .ok (.goto (-35), 3) := by decide +kernel
theorem dX11_stock_51 : decode cX11_stock 51 = .ok (.iconst (-1), 1) := by decide +kernel
theorem dX11_stock_52 : decode cX11_stock 52 = .ok (.ireturn, 1) := by decide +kernel
theorem dX11_scarce_0 : decode cX11_scarce 0 = .ok (.iconst (-1), 1) := by decide +kernel
theorem dX11_scarce_1 : decode cX11_scarce 1 = .ok (.istore_n 1, 1) := by decide +kernel
theorem dX11_scarce_2 : decode cX11_scarce 2 = .ok (.bipush 61, 2) := by decide +kernel
theorem dX11_scarce_4 : decode cX11_scarce 4 = .ok (.istore_n 2, 1) := by decide +kernel
theorem dX11_scarce_5 : decode cX11_scarce 5 = .ok (.iconst 0, 1) := by decide +kernel
theorem dX11_scarce_6 : decode cX11_scarce 6 = .ok (.istore_n 3, 1) := by decide +kernel
theorem dX11_scarce_7 : decode cX11_scarce 7 = .ok (.iload_n 3, 1) := by decide +kernel
theorem dX11_scarce_8 : decode cX11_scarce 8 = .ok (.aload_n 0, 1) := by decide +kernel
theorem dX11_scarce_9 : decode cX11_scarce 9 = .ok (.getfield 42, 3) := by decide +kernel
theorem dX11_scarce_12 : decode cX11_scarce 12 = .ok (.getfield 131, 3) := by decide +kernel
theorem dX11_scarce_15 : decode cX11_scarce 15 = .ok (.getfield 310, 3) := by decide +kernel
theorem dX11_scarce_18 : decode cX11_scarce 18 = .ok (.if_icmp .ge 39, 3) := by decide +kernel
theorem dX11_scarce_21 : decode cX11_scarce 21 = .ok (.aload_n 0, 1) := by decide +kernel
theorem dX11_scarce_22 : decode cX11_scarce 22 = .ok (.getfield 42, 3) := by decide +kernel
theorem dX11_scarce_25 : decode cX11_scarce 25 = .ok (.getfield 131, 3) := by decide +kernel
theorem dX11_scarce_28 : decode cX11_scarce 28 = .ok (.iload_n 3, 1) := by decide +kernel
theorem dX11_scarce_29 : decode cX11_scarce 29 = .ok (.invokevirtual 160, 3) := by decide +kernel
theorem dX11_scarce_32 : decode cX11_scarce 32 = .ok (.istore 4, 2) := by decide +kernel
theorem dX11_scarce_34 : decode cX11_scarce 34 = .ok (.iload 4, 2) := by decide +kernel
theorem dX11_scarce_36 : decode cX11_scarce 36 = .ok (.iconst (-1), 1) := by decide +kernel
theorem dX11_scarce_37 : decode cX11_scarce 37 = .ok (.if_icmp .eq 14, 3) := by decide +kernel
theorem dX11_scarce_40 : decode cX11_scarce 40 = .ok (.iload 4, 2) := by decide +kernel
theorem dX11_scarce_42 : decode cX11_scarce 42 = .ok (.iload_n 2, 1) := by decide +kernel
theorem dX11_scarce_43 : decode cX11_scarce 43 = .ok (.if_icmp .ge 8, 3) := by decide +kernel
theorem dX11_scarce_46 : decode cX11_scarce 46 = .ok (.iload 4, 2) := by decide +kernel
theorem dX11_scarce_48 : decode cX11_scarce 48 = .ok (.istore_n 2, 1) := by decide +kernel
theorem dX11_scarce_49 : decode cX11_scarce 49 = .ok (.iload_n 3, 1) := by decide +kernel
theorem dX11_scarce_50 : decode cX11_scarce 50 = .ok (.istore_n 1, 1) := by decide +kernel
theorem dX11_scarce_51 : decode cX11_scarce 51 = .ok (.iinc 3 1, 3) := by decide +kernel
theorem dX11_scarce_54 : decode cX11_scarce 54 = .ok (.goto (-47), 3) := by decide +kernel
theorem dX11_scarce_57 : decode cX11_scarce 57 = .ok (.iload_n 1, 1) := by decide +kernel
theorem dX11_scarce_58 : decode cX11_scarce 58 = .ok (.ireturn, 1) := by decide +kernel
theorem dX11_hot_0 : decode cX11_hot 0 = .ok (.aload_n 0, 1) := by decide +kernel
theorem dX11_hot_1 : decode cX11_hot 1 = .ok (.getfield 46, 3) := by decide +kernel
theorem dX11_hot_4 : decode cX11_hot 4 = .ok (.aload_n 0, 1) := by decide +kernel
theorem dX11_hot_5 : decode cX11_hot 5 = .ok (.getfield 42, 3) := by decide +kernel
theorem dX11_hot_8 : decode cX11_hot 8 = .ok (.invokevirtual 95, 3) := by decide +kernel
theorem dX11_hot_11 : decode cX11_hot 11 = .ok (.iconst 1, 1) := by decide +kernel
theorem dX11_hot_12 : decode cX11_hot 12 = .ok (.istore_n 1, 1) := by decide +kernel
theorem dX11_hot_13 : decode cX11_hot 13 = .ok (.iload_n 1, 1) := by decide +kernel
theorem dX11_hot_14 : decode cX11_hot 14 = .ok (.bipush 60, 2) := by decide +kernel
theorem dX11_hot_16 : decode cX11_hot 16 = .ok (.if_icmp .gt 32, 3) := by decide +kernel
theorem dX11_hot_19 : decode cX11_hot 19 = .ok (.aload_n 0, 1) := by decide +kernel
theorem dX11_hot_20 : decode cX11_hot 20 = .ok (.getfield 46, 3) := by decide +kernel
theorem dX11_hot_23 : decode cX11_hot 23 = .ok (.aload_n 0, 1) := by decide +kernel
theorem dX11_hot_24 : decode cX11_hot 24 = .ok (.getfield 52, 3) := by decide +kernel
theorem dX11_hot_27 : decode cX11_hot 27 = .ok (.invokevirtual 311, 3) := by decide +kernel
theorem dX11_hot_30 : decode cX11_hot 30 = .ok (.ifCond .le 5, 3) := by decide +kernel
theorem dX11_hot_33 : decode cX11_hot 33 = .ok (.iload_n 1, 1) := by decide +kernel
theorem dX11_hot_34 : decode cX11_hot 34 = .ok (.ireturn, 1) := by decide +kernel
theorem dX11_hot_35 : decode cX11_hot 35 = .ok (.aload_n 0, 1) := by decide +kernel
theorem dX11_hot_36 : decode cX11_hot 36 = .ok (.getfield 46, 3) := by decide +kernel
theorem dX11_hot_39 : decode cX11_hot 39 = .ok (.invokevirtual 307, 3) := by decide +kernel
theorem dX11_hot_42 : decode cX11_hot 42 = .ok (.iinc 1 1, 3) := by decide +kernel
theorem dX11_hot_45 : decode cX11_hot 45 = .ok (.goto (-32), 3) := by decide +kernel
theorem dX11_hot_48 : decode cX11_hot 48 = .ok (.iconst (-1), 1) := by decide +kernel
theorem dX11_hot_49 : decode cX11_hot 49 = .ok (.ireturn, 1) := by decide +kernel
theorem dX11_keeps_0 : decode cX11_keeps 0 = .ok (.iconst 0, 1) := by decide +kernel
theorem dX11_keeps_1 : decode cX11_keeps 1 = .ok (.istore_n 1, 1) := by decide +kernel
theorem dX11_keeps_2 : decode cX11_keeps 2 = .ok (.iconst 1, 1) := by decide +kernel
theorem dX11_keeps_3 : decode cX11_keeps 3 = .ok (.aload_n 0, 1) := by decide +kernel
theorem dX11_keeps_4 : decode cX11_keeps 4 = .ok (.getfield 42, 3) := by decide +kernel
theorem dX11_keeps_7 : decode cX11_keeps 7 = .ok (.getfield 131, 3) := by decide +kernel
theorem dX11_keeps_10 : decode cX11_keeps 10 = .ok (.getfield 310, 3) := by decide +kernel
theorem dX11_keeps_13 : decode cX11_keeps 13 = .ok (.ishl, 1) := by decide +kernel
theorem dX11_keeps_14 : decode cX11_keeps 14 = .ok (.iconst 1, 1) := by decide +kernel
theorem dX11_keeps_15 : decode cX11_keeps 15 = .ok (.isub, 1) := by decide +kernel
theorem dX11_keeps_16 : decode cX11_keeps 16 = .ok (.istore_n 2, 1) := by decide +kernel
theorem dX11_keeps_17 : decode cX11_keeps 17 = .ok (.iconst 0, 1) := by decide +kernel
theorem dX11_keeps_18 : decode cX11_keeps 18 = .ok (.istore_n 3, 1) := by decide +kernel
theorem dX11_keeps_19 : decode cX11_keeps 19 = .ok (.iload_n 3, 1) := by decide +kernel
theorem dX11_keeps_20 : decode cX11_keeps 20 = .ok (.iload_n 2, 1) := by decide +kernel
theorem dX11_keeps_21 : decode cX11_keeps 21 = .ok (.if_icmp .gt 22, 3) := by decide +kernel
theorem dX11_keeps_24 : decode cX11_keeps 24 = .ok (.iload_n 1, 1) := by decide +kernel
theorem dX11_keeps_25 : decode cX11_keeps 25 = .ok (.aload_n 0, 1) := by decide +kernel
theorem dX11_keeps_26 : decode cX11_keeps 26 = .ok (.getfield 42, 3) := by decide +kernel
theorem dX11_keeps_29 : decode cX11_keeps 29 = .ok (.iload_n 3, 1) := by decide +kernel
theorem dX11_keeps_30 : decode cX11_keeps 30 = .ok (.invokevirtual 315, 3) := by decide +kernel
theorem dX11_keeps_33 : decode cX11_keeps 33 = .ok (.invokestatic 318, 3) := by decide +kernel
theorem dX11_keeps_36 : decode cX11_keeps 36 = .ok (.istore_n 1, 1) := by decide +kernel
theorem dX11_keeps_37 : decode cX11_keeps 37 = .ok (.iinc 3 1, 3) := by decide +kernel
theorem dX11_keeps_40 : decode cX11_keeps 40 = .ok (.goto (-21), 3) := by decide +kernel
theorem dX11_keeps_43 : decode cX11_keeps 43 = .ok (.aload_n 0, 1) := by decide +kernel
theorem dX11_keeps_44 : decode cX11_keeps 44 = .ok (.getfield 42, 3) := by decide +kernel
theorem dX11_keeps_47 : decode cX11_keeps 47 = .ok (.getfield 131, 3) := by decide +kernel
theorem dX11_keeps_50 : decode cX11_keeps 50 = .ok (.iload_n 2, 1) := by decide +kernel
theorem dX11_keeps_51 : decode cX11_keeps 51 = .ok (.invokevirtual 321, 3) := by decide +kernel
theorem dX11_keeps_54 : decode cX11_keeps 54 = .ok (.iload_n 1, 1) := by decide +kernel
theorem dX11_keeps_55 : decode cX11_keeps 55 = .ok (.isub, 1) := by decide +kernel
theorem dX11_keeps_56 : decode cX11_keeps 56 = .ok (.ireturn, 1) := by decide +kernel
theorem dX11_tight_0 : decode cX11_tight 0 = .ok (.iconst 0, 1) := by decide +kernel
theorem dX11_tight_1 : decode cX11_tight 1 = .ok (.istore_n 1, 1) := by decide +kernel
theorem dX11_tight_2 : decode cX11_tight 2 = .ok (.iconst 0, 1) := by decide +kernel
theorem dX11_tight_3 : decode cX11_tight 3 = .ok (.istore_n 2, 1) := by decide +kernel
theorem dX11_tight_4 : decode cX11_tight 4 = .ok (.iload_n 2, 1) := by decide +kernel
theorem dX11_tight_5 : decode cX11_tight 5 = .ok (.iconst 1, 1) := by decide +kernel
theorem dX11_tight_6 : decode cX11_tight 6 = .ok (.aload_n 0, 1) := by decide +kernel
theorem dX11_tight_7 : decode cX11_tight 7 = .ok (.getfield 42, 3) := by decide +kernel
theorem dX11_tight_10 : decode cX11_tight 10 = .ok (.getfield 131, 3) := by decide +kernel
theorem dX11_tight_13 : decode cX11_tight 13 = .ok (.getfield 310, 3) := by decide +kernel
theorem dX11_tight_16 : decode cX11_tight 16 = .ok (.ishl, 1) := by decide +kernel
theorem dX11_tight_17 : decode cX11_tight 17 = .ok (.if_icmp .ge 33, 3) := by decide +kernel
theorem dX11_tight_20 : decode cX11_tight 20 = .ok (.iload_n 2, 1) := by decide +kernel
theorem dX11_tight_21 : decode cX11_tight 21 = .ok (.invokestatic 324, 3) := by decide +kernel
theorem dX11_tight_24 : decode cX11_tight 24 = .ok (.iload_n 1, 1) := by decide +kernel
theorem dX11_tight_25 : decode cX11_tight 25 = .ok (.invokestatic 324, 3) := by decide +kernel
theorem dX11_tight_28 : decode cX11_tight 28 = .ok (.if_icmp .le 16, 3) := by decide +kernel
theorem dX11_tight_31 : decode cX11_tight 31 = .ok (.aload_n 0, 1) := by decide +kernel
theorem dX11_tight_32 : decode cX11_tight 32 = .ok (.getfield 42, 3) := by decide +kernel
theorem dX11_tight_35 : decode cX11_tight 35 = .ok (.iload_n 2, 1) := by decide +kernel
theorem dX11_tight_36 : decode cX11_tight 36 = .ok (.invokevirtual 315, 3) := by decide +kernel
theorem dX11_tight_39 : decode cX11_tight 39 = .ok (.ifCond .le 5, 3) := by decide +kernel
theorem dX11_tight_42 : decode cX11_tight 42 = .ok (.iload_n 2, 1) := by decide +kernel
theorem dX11_tight_43 : decode cX11_tight 43 = .ok (.istore_n 1, 1) := by decide +kernel
theorem dX11_tight_44 : decode cX11_tight 44 = .ok (.iinc 2 1, 3) := by decide +kernel
theorem dX11_tight_47 : decode cX11_tight 47 = .ok (.goto (-43), 3) := by decide +kernel
theorem dX11_tight_50 : decode cX11_tight 50 = .ok (.iload_n 1, 1) := by decide +kernel
theorem dX11_tight_51 : decode cX11_tight 51 = .ok (.ireturn, 1) := by decide +kernel
theorem dX11_misses_0 : decode cX11_misses 0 = .ok (.aload_n 0, 1) := by decide +kernel
theorem dX11_misses_1 : decode cX11_misses 1 = .ok (.getfield 42, 3) := by decide +kernel
theorem dX11_misses_4 : decode cX11_misses 4 = .ok (.iload_n 1, 1) := by decide +kernel
theorem dX11_misses_5 : decode cX11_misses 5 = .ok (.invokevirtual 315, 3) := by decide +kernel
theorem dX11_misses_8 : decode cX11_misses 8 = .ok (.ireturn, 1) := by decide +kernel
theorem dX11_thaw_0 : decode cX11_thaw 0 = .ok (.aload_n 0, 1) := by decide +kernel
theorem dX11_thaw_1 : decode cX11_thaw 1 = .ok (.iload_n 1, 1) := by decide +kernel
theorem dX11_thaw_2 : decode cX11_thaw 2 = .ok (.iconst 0, 1) := by decide +kernel
theorem dX11_thaw_3 : decode cX11_thaw 3 = .ok (.sipush 999, 3) := by decide +kernel
theorem dX11_thaw_6 : decode cX11_thaw 6 = .ok (.invokevirtual 223, 3) := by decide +kernel
theorem dX11_thaw_9 : decode cX11_thaw 9 = .ok (.aload_n 0, 1) := by decide +kernel
theorem dX11_thaw_10 : decode cX11_thaw 10 = .ok (.getfield 69, 3) := by decide +kernel
theorem dX11_thaw_13 : decode cX11_thaw 13 = .ok (.aload_n 0, 1) := by decide +kernel
theorem dX11_thaw_14 : decode cX11_thaw 14 = .ok (.getfield 42, 3) := by decide +kernel
theorem dX11_thaw_17 : decode cX11_thaw 17 = .ok (.iload_n 1, 1) := by decide +kernel
theorem dX11_thaw_18 : decode cX11_thaw 18 = .ok (.invokevirtual 329, 3) := by decide +kernel
theorem dX11_thaw_21 : decode cX11_thaw 21 = .ok (.ireturn, 1) := by decide +kernel
theorem dX11_friends_0 : decode cX11_friends 0 = .ok (.aload_n 0, 1) := by decide +kernel
theorem dX11_friends_1 : decode cX11_friends 1 = .ok (.getfield 69, 3) := by decide +kernel
theorem dX11_friends_4 : decode cX11_friends 4 = .ok (.aload_n 0, 1) := by decide +kernel
theorem dX11_friends_5 : decode cX11_friends 5 = .ok (.getfield 42, 3) := by decide +kernel
theorem dX11_friends_8 : decode cX11_friends 8 = .ok (.iconst 0, 1) := by decide +kernel
theorem dX11_friends_9 : decode cX11_friends 9 = .ok (.invokevirtual 333, 3) := by decide +kernel
theorem dX11_friends_12 : decode cX11_friends 12 = .ok (.aload_n 0, 1) := by decide +kernel
theorem dX11_friends_13 : decode cX11_friends 13 = .ok (.getfield 69, 3) := by decide +kernel
theorem dX11_friends_16 : decode cX11_friends 16 = .ok (.invokevirtual 337, 3) := by decide +kernel
theorem dX11_friends_19 : decode cX11_friends 19 = .ok (.ireturn, 1) := by decide +kernel
theorem dX11_camps_0 : decode cX11_camps 0 = .ok (.iconst 0, 1) := by decide +kernel
theorem dX11_camps_1 : decode cX11_camps 1 = .ok (.istore_n 2, 1) := by decide +kernel
theorem dX11_camps_2 : decode cX11_camps 2 = .ok (.aload_n 0, 1) := by decide +kernel
theorem dX11_camps_3 : decode cX11_camps 3 = .ok (.getfield 42, 3) := by decide +kernel
theorem dX11_camps_6 : decode cX11_camps 6 = .ok (.getfield 150, 3) := by decide +kernel
theorem dX11_camps_9 : decode cX11_camps 9 = .ok (.iconst 0, 1) := by decide +kernel
theorem dX11_camps_10 : decode cX11_camps 10 = .ok (.invokevirtual 340, 3) := by decide +kernel
theorem dX11_camps_13 : decode cX11_camps 13 = .ok (.istore_n 3, 1) := by decide +kernel
theorem dX11_camps_14 : decode cX11_camps 14 = .ok (.iconst 2, 1) := by decide +kernel
theorem dX11_camps_15 : decode cX11_camps 15 = .ok (.istore 4, 2) := by decide +kernel
theorem dX11_camps_17 : decode cX11_camps 17 = .ok (.iload 4, 2) := by decide +kernel
theorem dX11_camps_19 : decode cX11_camps 19 = .ok (.iconst 1, 1) := by decide +kernel
theorem dX11_camps_20 : decode cX11_camps 20 = .ok (.aload_n 0, 1) := by decide +kernel
theorem dX11_camps_21 : decode cX11_camps 21 = .ok (.getfield 42, 3) := by decide +kernel
theorem dX11_camps_24 : decode cX11_camps 24 = .ok (.getfield 131, 3) := by decide +kernel
theorem dX11_camps_27 : decode cX11_camps 27 = .ok (.getfield 310, 3) := by decide +kernel
theorem dX11_camps_30 : decode cX11_camps 30 = .ok (.ishl, 1) := by decide +kernel
theorem dX11_camps_31 : decode cX11_camps 31 = .ok (.if_icmp .ge 35, 3) := by decide +kernel
theorem dX11_camps_34 : decode cX11_camps 34 = .ok (.aload_n 0, 1) := by decide +kernel
theorem dX11_camps_35 : decode cX11_camps 35 = .ok (.getfield 42, 3) := by decide +kernel
theorem dX11_camps_38 : decode cX11_camps 38 = .ok (.getfield 150, 3) := by decide +kernel
theorem dX11_camps_41 : decode cX11_camps 41 = .ok (.iload 4, 2) := by decide +kernel
theorem dX11_camps_43 : decode cX11_camps 43 = .ok (.invokevirtual 340, 3) := by decide +kernel
theorem dX11_camps_46 : decode cX11_camps 46 = .ok (.istore 5, 2) := by decide +kernel
theorem dX11_camps_48 : decode cX11_camps 48 = .ok (.iload 5, 2) := by decide +kernel
theorem dX11_camps_50 : decode cX11_camps 50 = .ok (.iload_n 3, 1) := by decide +kernel
theorem dX11_camps_51 : decode cX11_camps 51 = .ok (.if_icmp .ge 9, 3) := by decide +kernel
theorem dX11_camps_54 : decode cX11_camps 54 = .ok (.iload 5, 2) := by decide +kernel
theorem dX11_camps_56 : decode cX11_camps 56 = .ok (.istore_n 3, 1) := by decide +kernel
theorem dX11_camps_57 : decode cX11_camps 57 = .ok (.iload 4, 2) := by decide +kernel
theorem dX11_camps_59 : decode cX11_camps 59 = .ok (.istore_n 2, 1) := by decide +kernel
theorem dX11_camps_60 : decode cX11_camps 60 = .ok (.iinc 4 2, 3) := by decide +kernel
theorem dX11_camps_63 : decode cX11_camps 63 = .ok (.goto (-46), 3) := by decide +kernel
theorem dX11_camps_66 : decode cX11_camps 66 = .ok (.iload_n 1, 1) := by decide +kernel
theorem dX11_camps_67 : decode cX11_camps 67 = .ok (.ifCond .eq 7, 3) := by decide +kernel
theorem dX11_camps_70 : decode cX11_camps 70 = .ok (.iload_n 3, 1) := by decide +kernel
theorem dX11_camps_71 : decode cX11_camps 71 = .ok (.goto 4, 3) := by decide +kernel
theorem dX11_camps_74 : decode cX11_camps 74 = .ok (.iload_n 2, 1) := by decide +kernel
theorem dX11_camps_75 : decode cX11_camps 75 = .ok (.ireturn, 1) := by decide +kernel
theorem dX11_cuts_0 : decode cX11_cuts 0 = .ok (.aload_n 0, 1) := by decide +kernel
theorem dX11_cuts_1 : decode cX11_cuts 1 = .ok (.getfield 12, 3) := by decide +kernel
theorem dX11_cuts_4 : decode cX11_cuts 4 = .ok (.invokevirtual 343, 3) := by decide +kernel
theorem dX11_cuts_7 : decode cX11_cuts 7 = .ok (.istore_n 2, 1) := by decide +kernel
theorem dX11_cuts_8 : decode cX11_cuts 8 = .ok (.aload_n 0, 1) := by decide +kernel
theorem dX11_cuts_9 : decode cX11_cuts 9 = .ok (.iload_n 2, 1) := by decide +kernel
theorem dX11_cuts_10 : decode cX11_cuts 10 = .ok (.invokevirtual 346, 3) := by decide +kernel
theorem dX11_cuts_13 : decode cX11_cuts 13 = .ok (.aload_n 0, 1) := by decide +kernel
theorem dX11_cuts_14 : decode cX11_cuts 14 = .ok (.getfield 42, 3) := by decide +kernel
theorem dX11_cuts_17 : decode cX11_cuts 17 = .ok (.aload_n 0, 1) := by decide +kernel
theorem dX11_cuts_18 : decode cX11_cuts 18 = .ok (.getfield 12, 3) := by decide +kernel
theorem dX11_cuts_21 : decode cX11_cuts 21 = .ok (.iload_n 2, 1) := by decide +kernel
theorem dX11_cuts_22 : decode cX11_cuts 22 = .ok (.invokevirtual 349, 3) := by decide +kernel
theorem dX11_cuts_25 : decode cX11_cuts 25 = .ok (.istore_n 3, 1) := by decide +kernel
theorem dX11_cuts_26 : decode cX11_cuts 26 = .ok (.iload_n 1, 1) := by decide +kernel
theorem dX11_cuts_27 : decode cX11_cuts 27 = .ok (.ifCond .eq 14, 3) := by decide +kernel
theorem dX11_cuts_30 : decode cX11_cuts 30 = .ok (.aload_n 0, 1) := by decide +kernel
theorem dX11_cuts_31 : decode cX11_cuts 31 = .ok (.getfield 42, 3) := by decide +kernel
theorem dX11_cuts_34 : decode cX11_cuts 34 = .ok (.iload_n 3, 1) := by decide +kernel
theorem dX11_cuts_35 : decode cX11_cuts 35 = .ok (.invokevirtual 353, 3) := by decide +kernel
theorem dX11_cuts_38 : decode cX11_cuts 38 = .ok (.goto 4, 3) := by decide +kernel
theorem dX11_cuts_41 : decode cX11_cuts 41 = .ok (.iload_n 3, 1) := by decide +kernel
theorem dX11_cuts_42 : decode cX11_cuts 42 = .ok (.ireturn, 1) := by decide +kernel
theorem dX11_ask_0 : decode cX11_ask 0 = .ok (.aload_n 0, 1) := by decide +kernel
theorem dX11_ask_1 : decode cX11_ask 1 = .ok (.getfield 12, 3) := by decide +kernel
theorem dX11_ask_4 : decode cX11_ask 4 = .ok (.invokevirtual 343, 3) := by decide +kernel
theorem dX11_ask_7 : decode cX11_ask 7 = .ok (.istore_n 1, 1) := by decide +kernel
theorem dX11_ask_8 : decode cX11_ask 8 = .ok (.aload_n 0, 1) := by decide +kernel
theorem dX11_ask_9 : decode cX11_ask 9 = .ok (.iload_n 1, 1) := by decide +kernel
theorem dX11_ask_10 : decode cX11_ask 10 = .ok (.invokevirtual 346, 3) := by decide +kernel
theorem dX11_ask_13 : decode cX11_ask 13 = .ok (.aload_n 0, 1) := by decide +kernel
theorem dX11_ask_14 : decode cX11_ask 14 = .ok (.getfield 42, 3) := by decide +kernel
theorem dX11_ask_17 : decode cX11_ask 17 = .ok (.aload_n 0, 1) := by decide +kernel
theorem dX11_ask_18 : decode cX11_ask 18 = .ok (.getfield 12, 3) := by decide +kernel
theorem dX11_ask_21 : decode cX11_ask 21 = .ok (.iload_n 1, 1) := by decide +kernel
theorem dX11_ask_22 : decode cX11_ask 22 = .ok (.invokevirtual 349, 3) := by decide +kernel
theorem dX11_ask_25 : decode cX11_ask 25 = .ok (.istore_n 2, 1) := by decide +kernel
theorem dX11_ask_26 : decode cX11_ask 26 = .ok (.iload_n 2, 1) := by decide +kernel
theorem dX11_ask_27 : decode cX11_ask 27 = .ok (.invokestatic 324, 3) := by decide +kernel
theorem dX11_ask_30 : decode cX11_ask 30 = .ok (.iconst 2, 1) := by decide +kernel
theorem dX11_ask_31 : decode cX11_ask 31 = .ok (.if_icmp .ge 5, 3) := by decide +kernel
theorem dX11_ask_34 : decode cX11_ask 34 = .ok (.iconst (-1), 1) := by decide +kernel
theorem dX11_ask_35 : decode cX11_ask 35 = .ok (.ireturn, 1) := by decide +kernel
theorem dX11_ask_36 : decode cX11_ask 36 = .ok (.aload_n 0, 1) := by decide +kernel
theorem dX11_ask_37 : decode cX11_ask 37 = .ok (.getfield 42, 3) := by decide +kernel
theorem dX11_ask_40 : decode cX11_ask 40 = .ok (.getfield 209, 3) := by decide +kernel
theorem dX11_ask_43 : decode cX11_ask 43 = .ok (.iload_n 2, 1) := by decide +kernel
theorem dX11_ask_44 : decode cX11_ask 44 = .ok (.invokestatic 356, 3) := by decide +kernel
theorem dX11_ask_47 : decode cX11_ask 47 = .ok (.aload_n 0, 1) := by decide +kernel
theorem dX11_ask_48 : decode cX11_ask 48 = .ok (.getfield 42, 3) := by decide +kernel
theorem dX11_ask_51 : decode cX11_ask 51 = .ok (.getfield 206, 3) := by decide +kernel
theorem dX11_ask_54 : decode cX11_ask 54 = .ok (.iload_n 2, 1) := by decide +kernel
theorem dX11_ask_55 : decode cX11_ask 55 = .ok (.invokestatic 356, 3) := by decide +kernel
theorem dX11_ask_58 : decode cX11_ask 58 = .ok (.if_icmp .ge 7, 3) := by decide +kernel
theorem dX11_ask_61 : decode cX11_ask 61 = .ok (.iconst 1, 1) := by decide +kernel
theorem dX11_ask_62 : decode cX11_ask 62 = .ok (.goto 4, 3) := by decide +kernel
theorem dX11_ask_65 : decode cX11_ask 65 = .ok (.iconst 0, 1) := by decide +kernel
theorem dX11_ask_66 : decode cX11_ask 66 = .ok (.ireturn, 1) := by decide +kernel
theorem dX11_rota_0 : decode cX11_rota 0 = .ok (.aload_n 0, 1) := by decide +kernel
theorem dX11_rota_1 : decode cX11_rota 1 = .ok (.getfield 42, 3) := by decide +kernel
theorem dX11_rota_4 : decode cX11_rota 4 = .ok (.getfield 131, 3) := by decide +kernel
theorem dX11_rota_7 : decode cX11_rota 7 = .ok (.getfield 310, 3) := by decide +kernel
theorem dX11_rota_10 : decode cX11_rota 10 = .ok (.iconst 1, 1) := by decide +kernel
theorem dX11_rota_11 : decode cX11_rota 11 = .ok (.if_icmp .ne 5, 3) := by decide +kernel
theorem dX11_rota_14 : decode cX11_rota 14 = .ok (.iconst (-1), 1) := by decide +kernel
theorem dX11_rota_15 : decode cX11_rota 15 = .ok (.ireturn, 1) := by decide +kernel
theorem dX11_rota_16 : decode cX11_rota 16 = .ok (.iconst 0, 1) := by decide +kernel
theorem dX11_rota_17 : decode cX11_rota 17 = .ok (.istore_n 1, 1) := by decide +kernel
theorem dX11_rota_18 : decode cX11_rota 18 = .ok (.iconst 0, 1) := by decide +kernel
theorem dX11_rota_19 : decode cX11_rota 19 = .ok (.istore_n 2, 1) := by decide +kernel
theorem dX11_rota_20 : decode cX11_rota 20 = .ok (.iload_n 2, 1) := by decide +kernel
theorem dX11_rota_21 : decode cX11_rota 21 = .ok (.aload_n 0, 1) := by decide +kernel
theorem dX11_rota_22 : decode cX11_rota 22 = .ok (.getfield 42, 3) := by decide +kernel
theorem dX11_rota_25 : decode cX11_rota 25 = .ok (.getfield 131, 3) := by decide +kernel
theorem dX11_rota_28 : decode cX11_rota 28 = .ok (.getfield 310, 3) := by decide +kernel
theorem dX11_rota_31 : decode cX11_rota 31 = .ok (.if_icmp .ge 26, 3) := by decide +kernel
theorem dX11_rota_34 : decode cX11_rota 34 = .ok (.aload_n 0, 1) := by decide +kernel
theorem dX11_rota_35 : decode cX11_rota 35 = .ok (.getfield 42, 3) := by decide +kernel
theorem dX11_rota_38 : decode cX11_rota 38 = .ok (.getfield 150, 3) := by decide +kernel
theorem dX11_rota_41 : decode cX11_rota 41 = .ok (.iload_n 2, 1) := by decide +kernel
theorem dX11_rota_42 : decode cX11_rota 42 = .ok (.invokevirtual 360, 3) := by decide +kernel
theorem dX11_rota_45 : decode cX11_rota 45 = .ok (.ifCond .ne 6, 3) := by decide +kernel
theorem dX11_rota_48 : decode cX11_rota 48 = .ok (.iinc 1 1, 3) := by decide +kernel
theorem dX11_rota_51 : decode cX11_rota 51 = .ok (.iinc 2 1, 3) := by decide +kernel
theorem dX11_rota_54 : decode cX11_rota 54 = .ok (.goto (-34), 3) := by decide +kernel
theorem dX11_rota_57 : decode cX11_rota 57 = .ok (.iload_n 1, 1) := by decide +kernel
theorem dX11_rota_58 : decode cX11_rota 58 = .ok (.iconst 1, 1) := by decide +kernel
theorem dX11_rota_59 : decode cX11_rota 59 = .ok (.iadd, 1) := by decide +kernel
theorem dX11_rota_60 : decode cX11_rota 60 = .ok (.iconst 2, 1) := by decide +kernel
theorem dX11_rota_61 : decode cX11_rota 61 = .ok (.idiv, 1) := by decide +kernel
theorem dX11_rota_62 : decode cX11_rota 62 = .ok (.ireturn, 1) := by decide +kernel
theorem dX11_steps_0 : decode cX11_steps 0 = .ok (.aload_n 0, 1) := by decide +kernel
theorem dX11_steps_1 : decode cX11_steps 1 = .ok (.iload_n 1, 1) := by decide +kernel
theorem dX11_steps_2 : decode cX11_steps 2 = .ok (.invokevirtual 128, 3) := by decide +kernel
theorem dX11_steps_5 : decode cX11_steps 5 = .ok (.aload_n 0, 1) := by decide +kernel
theorem dX11_steps_6 : decode cX11_steps 6 = .ok (.iload_n 2, 1) := by decide +kernel
theorem dX11_steps_7 : decode cX11_steps 7 = .ok (.invokevirtual 128, 3) := by decide +kernel
theorem dX11_steps_10 : decode cX11_steps 10 = .ok (.aload_n 0, 1) := by decide +kernel
theorem dX11_steps_11 : decode cX11_steps 11 = .ok (.getfield 69, 3) := by decide +kernel
theorem dX11_steps_14 : decode cX11_steps 14 = .ok (.aload_n 0, 1) := by decide +kernel
theorem dX11_steps_15 : decode cX11_steps 15 = .ok (.getfield 42, 3) := by decide +kernel
theorem dX11_steps_18 : decode cX11_steps 18 = .ok (.iconst 0, 1) := by decide +kernel
theorem dX11_steps_19 : decode cX11_steps 19 = .ok (.invokevirtual 333, 3) := by decide +kernel
theorem dX11_steps_22 : decode cX11_steps 22 = .ok (.aload_n 0, 1) := by decide +kernel
theorem dX11_steps_23 : decode cX11_steps 23 = .ok (.getfield 69, 3) := by decide +kernel
theorem dX11_steps_26 : decode cX11_steps 26 = .ok (.iload_n 1, 1) := by decide +kernel
theorem dX11_steps_27 : decode cX11_steps 27 = .ok (.iload_n 2, 1) := by decide +kernel
theorem dX11_steps_28 : decode cX11_steps 28 = .ok (.invokevirtual 364, 3) := by decide +kernel
theorem dX11_steps_31 : decode cX11_steps 31 = .ok (.ireturn, 1) := by decide +kernel
theorem dX11_ring_0 : decode cX11_ring 0 = .ok (.aload_n 0, 1) := by decide +kernel
theorem dX11_ring_1 : decode cX11_ring 1 = .ok (.iload_n 1, 1) := by decide +kernel
theorem dX11_ring_2 : decode cX11_ring 2 = .ok (.invokevirtual 128, 3) := by decide +kernel
theorem dX11_ring_5 : decode cX11_ring 5 = .ok (.aload_n 0, 1) := by decide +kernel
theorem dX11_ring_6 : decode cX11_ring 6 = .ok (.getfield 69, 3) := by decide +kernel
theorem dX11_ring_9 : decode cX11_ring 9 = .ok (.aload_n 0, 1) := by decide +kernel
theorem dX11_ring_10 : decode cX11_ring 10 = .ok (.getfield 42, 3) := by decide +kernel
theorem dX11_ring_13 : decode cX11_ring 13 = .ok (.iconst 0, 1) := by decide +kernel
theorem dX11_ring_14 : decode cX11_ring 14 = .ok (.invokevirtual 333, 3) := by decide +kernel
theorem dX11_ring_17 : decode cX11_ring 17 = .ok (.aload_n 0, 1) := by decide +kernel
theorem dX11_ring_18 : decode cX11_ring 18 = .ok (.getfield 69, 3) := by decide +kernel
theorem dX11_ring_21 : decode cX11_ring 21 = .ok (.iload_n 1, 1) := by decide +kernel
theorem dX11_ring_22 : decode cX11_ring 22 = .ok (.invokevirtual 367, 3) := by decide +kernel
theorem dX11_ring_25 : decode cX11_ring 25 = .ok (.ireturn, 1) := by decide +kernel
theorem dX11_feud_0 : decode cX11_feud 0 = .ok (.aload_n 0, 1) := by decide +kernel
theorem dX11_feud_1 : decode cX11_feud 1 = .ok (.getfield 69, 3) := by decide +kernel
theorem dX11_feud_4 : decode cX11_feud 4 = .ok (.aload_n 0, 1) := by decide +kernel
theorem dX11_feud_5 : decode cX11_feud 5 = .ok (.getfield 42, 3) := by decide +kernel
theorem dX11_feud_8 : decode cX11_feud 8 = .ok (.iconst 0, 1) := by decide +kernel
theorem dX11_feud_9 : decode cX11_feud 9 = .ok (.invokevirtual 333, 3) := by decide +kernel
theorem dX11_feud_12 : decode cX11_feud 12 = .ok (.aload_n 0, 1) := by decide +kernel
theorem dX11_feud_13 : decode cX11_feud 13 = .ok (.getfield 69, 3) := by decide +kernel
theorem dX11_feud_16 : decode cX11_feud 16 = .ok (.invokevirtual 370, 3) := by decide +kernel
theorem dX11_feud_19 : decode cX11_feud 19 = .ok (.ireturn, 1) := by decide +kernel
theorem dX11_between_0 : decode cX11_between 0 = .ok (.iconst 0, 1) := by decide +kernel
theorem dX11_between_1 : decode cX11_between 1 = .ok (.istore_n 1, 1) := by decide +kernel
theorem dX11_between_2 : decode cX11_between 2 = .ok (.iconst 0, 1) := by decide +kernel
theorem dX11_between_3 : decode cX11_between 3 = .ok (.istore_n 2, 1) := by decide +kernel
theorem dX11_between_4 : decode cX11_between 4 = .ok (.iload_n 2, 1) := by decide +kernel
theorem dX11_between_5 : decode cX11_between 5 = .ok (.aload_n 0, 1) := by decide +kernel
theorem dX11_between_6 : decode cX11_between 6 = .ok (.getfield 42, 3) := by decide +kernel
theorem dX11_between_9 : decode cX11_between 9 = .ok (.getfield 150, 3) := by decide +kernel
theorem dX11_between_12 : decode cX11_between 12 = .ok (.getfield 242, 3) := by decide +kernel
theorem dX11_between_15 : decode cX11_between 15 = .ok (.if_icmp .ge 78, 3) := by decide +kernel
theorem dX11_between_18 : decode cX11_between 18 = .ok (.aload_n 0, 1) := by decide +kernel
theorem dX11_between_19 : decode cX11_between 19 = .ok (.getfield 42, 3) := by decide +kernel
theorem dX11_between_22 : decode cX11_between 22 = .ok (.getfield 150, 3) := by decide +kernel
theorem dX11_between_25 : decode cX11_between 25 = .ok (.iload_n 2, 1) := by decide +kernel
theorem dX11_between_26 : decode cX11_between 26 = .ok (.invokevirtual 373, 3) := by decide +kernel
theorem dX11_between_29 : decode cX11_between 29 = .ok (.ifCond .eq 58, 3) := by decide +kernel
theorem dX11_between_32 : decode cX11_between 32 = .ok (.aload_n 0, 1) := by decide +kernel
theorem dX11_between_33 : decode cX11_between 33 = .ok (.getfield 69, 3) := by decide +kernel
theorem dX11_between_36 : decode cX11_between 36 = .ok (.aload_n 0, 1) := by decide +kernel
theorem dX11_between_37 : decode cX11_between 37 = .ok (.getfield 42, 3) := by decide +kernel
theorem dX11_between_40 : decode cX11_between 40 = .ok (.iconst 1, 1) := by decide +kernel
theorem dX11_between_41 : decode cX11_between 41 = .ok (.iload_n 2, 1) := by decide +kernel
theorem dX11_between_42 : decode cX11_between 42 = .ok (.ishl, 1) := by decide +kernel
theorem dX11_between_43 : decode cX11_between 43 = .ok (.invokevirtual 333, 3) := by decide +kernel
theorem dX11_between_46 : decode cX11_between 46 = .ok (.aload_n 0, 1) := by decide +kernel
theorem dX11_between_47 : decode cX11_between 47 = .ok (.getfield 69, 3) := by decide +kernel
theorem dX11_between_50 : decode cX11_between 50 = .ok (.aload_n 0, 1) := by decide +kernel
theorem dX11_between_51 : decode cX11_between 51 = .ok (.getfield 42, 3) := by decide +kernel
theorem dX11_between_54 : decode cX11_between 54 = .ok (.getfield 150, 3) := by decide +kernel
theorem dX11_between_57 : decode cX11_between 57 = .ok (.getfield 174, 3) := by decide +kernel
theorem dX11_between_60 : decode cX11_between 60 = .ok (.iload_n 2, 1) := by decide +kernel
theorem dX11_between_61 : decode cX11_between 61 = .ok (.iaload, 1) := by decide +kernel
theorem dX11_between_62 : decode cX11_between 62 = .ok (.aload_n 0, 1) := by decide +kernel
theorem dX11_between_63 : decode cX11_between 63 = .ok (.getfield 42, 3) := by decide +kernel
theorem dX11_between_66 : decode cX11_between 66 = .ok (.getfield 150, 3) := by decide +kernel
theorem dX11_between_69 : decode cX11_between 69 = .ok (.getfield 177, 3) := by decide +kernel
theorem dX11_between_72 : decode cX11_between 72 = .ok (.iload_n 2, 1) := by decide +kernel
theorem dX11_between_73 : decode cX11_between 73 = .ok (.iaload, 1) := by decide +kernel
theorem dX11_between_74 : decode cX11_between 74 = .ok (.invokevirtual 364, 3) := by decide +kernel
theorem dX11_between_77 : decode cX11_between 77 = .ok (.iconst (-1), 1) := by decide +kernel
theorem dX11_between_78 : decode cX11_between 78 = .ok (.if_icmp .ne 9, 3) := by decide +kernel
theorem dX11_between_81 : decode cX11_between 81 = .ok (.iload_n 1, 1) := by decide +kernel
theorem dX11_between_82 : decode cX11_between 82 = .ok (.iconst 1, 1) := by decide +kernel
theorem dX11_between_83 : decode cX11_between 83 = .ok (.iload_n 2, 1) := by decide +kernel
theorem dX11_between_84 : decode cX11_between 84 = .ok (.ishl, 1) := by decide +kernel
theorem dX11_between_85 : decode cX11_between 85 = .ok (.ior, 1) := by decide +kernel
theorem dX11_between_86 : decode cX11_between 86 = .ok (.istore_n 1, 1) := by decide +kernel
theorem dX11_between_87 : decode cX11_between 87 = .ok (.iinc 2 1, 3) := by decide +kernel
theorem dX11_between_90 : decode cX11_between 90 = .ok (.goto (-86), 3) := by decide +kernel
theorem dX11_between_93 : decode cX11_between 93 = .ok (.iload_n 1, 1) := by decide +kernel
theorem dX11_between_94 : decode cX11_between 94 = .ok (.ireturn, 1) := by decide +kernel
theorem dX11_kisses_0 : decode cX11_kisses 0 = .ok (.iload_n 1, 1) := by decide +kernel
theorem dX11_kisses_1 : decode cX11_kisses 1 = .ok (.iconst (-1), 1) := by decide +kernel
theorem dX11_kisses_2 : decode cX11_kisses 2 = .ok (.if_icmp .eq 8, 3) := by decide +kernel
theorem dX11_kisses_5 : decode cX11_kisses 5 = .ok (.aload_n 0, 1) := by decide +kernel
theorem dX11_kisses_6 : decode cX11_kisses 6 = .ok (.iload_n 1, 1) := by decide +kernel
theorem dX11_kisses_7 : decode cX11_kisses 7 = .ok (.invokevirtual 128, 3) := by decide +kernel
theorem dX11_kisses_10 : decode cX11_kisses 10 = .ok (.aload_n 0, 1) := by decide +kernel
theorem dX11_kisses_11 : decode cX11_kisses 11 = .ok (.getfield 69, 3) := by decide +kernel
theorem dX11_kisses_14 : decode cX11_kisses 14 = .ok (.aload_n 0, 1) := by decide +kernel
theorem dX11_kisses_15 : decode cX11_kisses 15 = .ok (.getfield 42, 3) := by decide +kernel
theorem dX11_kisses_18 : decode cX11_kisses 18 = .ok (.iconst 0, 1) := by decide +kernel
theorem dX11_kisses_19 : decode cX11_kisses 19 = .ok (.invokevirtual 333, 3) := by decide +kernel
theorem dX11_kisses_22 : decode cX11_kisses 22 = .ok (.aload_n 0, 1) := by decide +kernel
theorem dX11_kisses_23 : decode cX11_kisses 23 = .ok (.getfield 69, 3) := by decide +kernel
theorem dX11_kisses_26 : decode cX11_kisses 26 = .ok (.aload_n 0, 1) := by decide +kernel
theorem dX11_kisses_27 : decode cX11_kisses 27 = .ok (.getfield 42, 3) := by decide +kernel
theorem dX11_kisses_30 : decode cX11_kisses 30 = .ok (.getfield 131, 3) := by decide +kernel
theorem dX11_kisses_33 : decode cX11_kisses 33 = .ok (.invokevirtual 376, 3) := by decide +kernel
theorem dX11_kisses_36 : decode cX11_kisses 36 = .ok (.iload_n 1, 1) := by decide +kernel
theorem dX11_kisses_37 : decode cX11_kisses 37 = .ok (.iconst (-1), 1) := by decide +kernel
theorem dX11_kisses_38 : decode cX11_kisses 38 = .ok (.if_icmp .ne 13, 3) := by decide +kernel
theorem dX11_kisses_41 : decode cX11_kisses 41 = .ok (.aload_n 0, 1) := by decide +kernel
theorem dX11_kisses_42 : decode cX11_kisses 42 = .ok (.getfield 69, 3) := by decide +kernel
theorem dX11_kisses_45 : decode cX11_kisses 45 = .ok (.getfield 380, 3) := by decide +kernel
theorem dX11_kisses_48 : decode cX11_kisses 48 = .ok (.goto 12, 3) := by decide +kernel
theorem dX11_kisses_51 : decode cX11_kisses 51 = .ok (.aload_n 0, 1) := by decide +kernel
theorem dX11_kisses_52 : decode cX11_kisses 52 = .ok (.getfield 69, 3) := by decide +kernel
theorem dX11_kisses_55 : decode cX11_kisses 55 = .ok (.getfield 383, 3) := by decide +kernel
theorem dX11_kisses_58 : decode cX11_kisses 58 = .ok (.iload_n 1, 1) := by decide +kernel
theorem dX11_kisses_59 : decode cX11_kisses 59 = .ok (.iaload, 1) := by decide +kernel
theorem dX11_kisses_60 : decode cX11_kisses 60 = .ok (.ireturn, 1) := by decide +kernel
theorem dX11_shares_0 : decode cX11_shares 0 = .ok (.aload_n 0, 1) := by decide +kernel
theorem dX11_shares_1 : decode cX11_shares 1 = .ok (.iload_n 1, 1) := by decide +kernel
theorem dX11_shares_2 : decode cX11_shares 2 = .ok (.invokevirtual 128, 3) := by decide +kernel
theorem dX11_shares_5 : decode cX11_shares 5 = .ok (.aload_n 0, 1) := by decide +kernel
theorem dX11_shares_6 : decode cX11_shares 6 = .ok (.iload_n 2, 1) := by decide +kernel
theorem dX11_shares_7 : decode cX11_shares 7 = .ok (.iconst 0, 1) := by decide +kernel
theorem dX11_shares_8 : decode cX11_shares 8 = .ok (.sipush 999, 3) := by decide +kernel
theorem dX11_shares_11 : decode cX11_shares 11 = .ok (.invokevirtual 223, 3) := by decide +kernel
theorem dX11_shares_14 : decode cX11_shares 14 = .ok (.aload_n 0, 1) := by decide +kernel
theorem dX11_shares_15 : decode cX11_shares 15 = .ok (.getfield 42, 3) := by decide +kernel
theorem dX11_shares_18 : decode cX11_shares 18 = .ok (.getfield 131, 3) := by decide +kernel
theorem dX11_shares_21 : decode cX11_shares 21 = .ok (.iload_n 1, 1) := by decide +kernel
theorem dX11_shares_22 : decode cX11_shares 22 = .ok (.iload_n 2, 1) := by decide +kernel
theorem dX11_shares_23 : decode cX11_shares 23 = .ok (.invokevirtual 386, 3) := by decide +kernel
theorem dX11_shares_26 : decode cX11_shares 26 = .ok (.ireturn, 1) := by decide +kernel
theorem dX11_swap_0 : decode cX11_swap 0 = .ok (.aload_n 0, 1) := by decide +kernel
theorem dX11_swap_1 : decode cX11_swap 1 = .ok (.iload_n 1, 1) := by decide +kernel
theorem dX11_swap_2 : decode cX11_swap 2 = .ok (.invokevirtual 128, 3) := by decide +kernel
theorem dX11_swap_5 : decode cX11_swap 5 = .ok (.aload_n 0, 1) := by decide +kernel
theorem dX11_swap_6 : decode cX11_swap 6 = .ok (.iload_n 2, 1) := by decide +kernel
theorem dX11_swap_7 : decode cX11_swap 7 = .ok (.invokevirtual 128, 3) := by decide +kernel
theorem dX11_swap_10 : decode cX11_swap 10 = .ok (.aload_n 0, 1) := by decide +kernel
theorem dX11_swap_11 : decode cX11_swap 11 = .ok (.iload_n 1, 1) := by decide +kernel
theorem dX11_swap_12 : decode cX11_swap 12 = .ok (.iload_n 2, 1) := by decide +kernel
theorem dX11_swap_13 : decode cX11_swap 13 = .ok (.invokevirtual 234, 3) := by decide +kernel
theorem dX11_swap_16 : decode cX11_swap 16 = .ok (.aload_n 0, 1) := by decide +kernel
theorem dX11_swap_17 : decode cX11_swap 17 = .ok (.getfield 42, 3) := by decide +kernel
theorem dX11_swap_20 : decode cX11_swap 20 = .ok (.getfield 131, 3) := by decide +kernel
theorem dX11_swap_23 : decode cX11_swap 23 = .ok (.iload_n 1, 1) := by decide +kernel
theorem dX11_swap_24 : decode cX11_swap 24 = .ok (.iload_n 2, 1) := by decide +kernel
theorem dX11_swap_25 : decode cX11_swap 25 = .ok (.invokevirtual 389, 3) := by decide +kernel
theorem dX11_swap_28 : decode cX11_swap 28 = .ok (.ifCond .eq 22, 3) := by decide +kernel
theorem dX11_swap_31 : decode cX11_swap 31 = .ok (.aload_n 0, 1) := by decide +kernel
theorem dX11_swap_32 : decode cX11_swap 32 = .ok (.getfield 42, 3) := by decide +kernel
theorem dX11_swap_35 : decode cX11_swap 35 = .ok (.getfield 131, 3) := by decide +kernel
theorem dX11_swap_38 : decode cX11_swap 38 = .ok (.iload_n 2, 1) := by decide +kernel
theorem dX11_swap_39 : decode cX11_swap 39 = .ok (.iload_n 1, 1) := by decide +kernel
theorem dX11_swap_40 : decode cX11_swap 40 = .ok (.invokevirtual 389, 3) := by decide +kernel
theorem dX11_swap_43 : decode cX11_swap 43 = .ok (.ifCond .eq 7, 3) := by decide +kernel
theorem dX11_swap_46 : decode cX11_swap 46 = .ok (.iconst 1, 1) := by decide +kernel
theorem dX11_swap_47 : decode cX11_swap 47 = .ok (.goto 4, 3) := by decide +kernel
theorem dX11_swap_50 : decode cX11_swap 50 = .ok (.iconst 0, 1) := by decide +kernel
theorem dX11_swap_51 : decode cX11_swap 51 = .ok (.ireturn, 1) := by decide +kernel
theorem dX11_rests_0 : decode cX11_rests 0 = .ok (.aload_n 0, 1) := by decide +kernel
theorem dX11_rests_1 : decode cX11_rests 1 = .ok (.iload_n 1, 1) := by decide +kernel
theorem dX11_rests_2 : decode cX11_rests 2 = .ok (.invokevirtual 171, 3) := by decide +kernel
theorem dX11_rests_5 : decode cX11_rests 5 = .ok (.aload_n 0, 1) := by decide +kernel
theorem dX11_rests_6 : decode cX11_rests 6 = .ok (.getfield 42, 3) := by decide +kernel
theorem dX11_rests_9 : decode cX11_rests 9 = .ok (.getfield 150, 3) := by decide +kernel
theorem dX11_rests_12 : decode cX11_rests 12 = .ok (.iload_n 1, 1) := by decide +kernel
theorem dX11_rests_13 : decode cX11_rests 13 = .ok (.invokevirtual 373, 3) := by decide +kernel
theorem dX11_rests_16 : decode cX11_rests 16 = .ok (.ifCond .ne 5, 3) := by decide +kernel
theorem dX11_rests_19 : decode cX11_rests 19 = .ok (.iconst (-1), 1) := by decide +kernel
theorem dX11_rests_20 : decode cX11_rests 20 = .ok (.ireturn, 1) := by decide +kernel
theorem dX11_rests_21 : decode cX11_rests 21 = .ok (.aload_n 0, 1) := by decide +kernel
theorem dX11_rests_22 : decode cX11_rests 22 = .ok (.getfield 42, 3) := by decide +kernel
theorem dX11_rests_25 : decode cX11_rests 25 = .ok (.iload_n 1, 1) := by decide +kernel
theorem dX11_rests_26 : decode cX11_rests 26 = .ok (.invokevirtual 392, 3) := by decide +kernel
theorem dX11_rests_29 : decode cX11_rests 29 = .ok (.ireturn, 1) := by decide +kernel
theorem dX11_odds_0 : decode cX11_odds 0 = .ok (.aload_n 0, 1) := by decide +kernel
theorem dX11_odds_1 : decode cX11_odds 1 = .ok (.iload_n 1, 1) := by decide +kernel
theorem dX11_odds_2 : decode cX11_odds 2 = .ok (.iconst 0, 1) := by decide +kernel
theorem dX11_odds_3 : decode cX11_odds 3 = .ok (.bipush 6, 2) := by decide +kernel
theorem dX11_odds_5 : decode cX11_odds 5 = .ok (.invokevirtual 223, 3) := by decide +kernel
theorem dX11_odds_8 : decode cX11_odds 8 = .ok (.aload_n 0, 1) := by decide +kernel
theorem dX11_odds_9 : decode cX11_odds 9 = .ok (.iload_n 2, 1) := by decide +kernel
theorem dX11_odds_10 : decode cX11_odds 10 = .ok (.iconst 0, 1) := by decide +kernel
theorem dX11_odds_11 : decode cX11_odds 11 = .ok (.bipush 6, 2) := by decide +kernel
theorem dX11_odds_13 : decode cX11_odds 13 = .ok (.invokevirtual 223, 3) := by decide +kernel
theorem dX11_odds_16 : decode cX11_odds 16 = .ok (.ldc2_w 395, 3) := by decide +kernel
theorem dX11_odds_19 : decode cX11_odds 19 = .ok (.iload_n 1, 1) := by decide +kernel
theorem dX11_odds_20 : decode cX11_odds 20 = .ok (.invokestatic 397, 3) := by decide +kernel
theorem dX11_odds_23 : decode cX11_odds 23 = .ok (.lstore_n 3, 1) := by decide +kernel
theorem dX11_odds_24 : decode cX11_odds 24 = .ok (.lload_n 3, 1) := by decide +kernel
theorem dX11_odds_25 : decode cX11_odds 25 = .ok (.lconst 0, 1) := by decide +kernel
theorem dX11_odds_26 : decode cX11_odds 26 = .ok (.lcmp, 1) := by decide +kernel
theorem dX11_odds_27 : decode cX11_odds 27 = .ok (.ifCond .gt 5, 3) := by decide +kernel
theorem dX11_odds_30 : decode cX11_odds 30 = .ok (.iconst 0, 1) := by decide +kernel
theorem dX11_odds_31 : decode cX11_odds 31 = .ok (.ireturn, 1) := by decide +kernel
theorem dX11_odds_32 : decode cX11_odds 32 = .ok (.lconst 0, 1) := by decide +kernel
theorem dX11_odds_33 : decode cX11_odds 33 = .ok (.lstore 5, 2) := by decide +kernel
theorem dX11_odds_35 : decode cX11_odds 35 = .ok (.lconst 1, 1) := by decide +kernel
theorem dX11_odds_36 : decode cX11_odds 36 = .ok (.lstore 7, 2) := by decide +kernel
theorem dX11_odds_38 : decode cX11_odds 38 = .ok (.iconst 0, 1) := by decide +kernel
theorem dX11_odds_39 : decode cX11_odds 39 = .ok (.istore 9, 2) := by decide +kernel
theorem dX11_odds_41 : decode cX11_odds 41 = .ok (.iload 9, 2) := by decide +kernel
theorem dX11_odds_43 : decode cX11_odds 43 = .ok (.iload_n 1, 1) := by decide +kernel
theorem dX11_odds_44 : decode cX11_odds 44 = .ok (.if_icmp .gt 71, 3) := by decide +kernel
theorem dX11_odds_47 : decode cX11_odds 47 = .ok (.iload 9, 2) := by decide +kernel
theorem dX11_odds_49 : decode cX11_odds 49 = .ok (.iload_n 2, 1) := by decide +kernel
theorem dX11_odds_50 : decode cX11_odds 50 = .ok (.if_icmp .lt 43, 3) := by decide +kernel
theorem dX11_odds_53 : decode cX11_odds 53 = .ok (.lload 5, 2) := by decide +kernel
theorem dX11_odds_55 : decode cX11_odds 55 = .ok (.lload 7, 2) := by decide +kernel
theorem dX11_odds_57 : decode cX11_odds 57 = .ok (.aload_n 0, 1) := by decide +kernel
theorem dX11_odds_58 : decode cX11_odds 58 = .ok (.getfield 42, 3) := by decide +kernel
theorem dX11_odds_61 : decode cX11_odds 61 = .ok (.getfield 401, 3) := by decide +kernel
theorem dX11_odds_64 : decode cX11_odds 64 = .ok (.i2l, 1) := by decide +kernel
theorem dX11_odds_65 : decode cX11_odds 65 = .ok (.iload 9, 2) := by decide +kernel
theorem dX11_odds_67 : decode cX11_odds 67 = .ok (.invokestatic 397, 3) := by decide +kernel
theorem dX11_odds_70 : decode cX11_odds 70 = .ok (.lmul, 1) := by decide +kernel
theorem dX11_odds_71 : decode cX11_odds 71 = .ok (.bipush 100, 2) := by decide +kernel
theorem dX11_odds_73 : decode cX11_odds 73 = .ok (.aload_n 0, 1) := by decide +kernel
theorem dX11_odds_74 : decode cX11_odds 74 = .ok (.getfield 42, 3) := by decide +kernel
theorem dX11_odds_77 : decode cX11_odds 77 = .ok (.getfield 401, 3) := by decide +kernel
theorem dX11_odds_80 : decode cX11_odds 80 = .ok (.isub, 1) := by decide +kernel
theorem dX11_odds_81 : decode cX11_odds 81 = .ok (.i2l, 1) := by decide +kernel
theorem dX11_odds_82 : decode cX11_odds 82 = .ok (.iload_n 1, 1) := by decide +kernel
theorem dX11_odds_83 : decode cX11_odds 83 = .ok (.iload 9, 2) := by decide +kernel
theorem dX11_odds_85 : decode cX11_odds 85 = .ok (.isub, 1) := by decide +kernel
theorem dX11_odds_86 : decode cX11_odds 86 = .ok (.invokestatic 397, 3) := by decide +kernel
theorem dX11_odds_89 : decode cX11_odds 89 = .ok (.lmul, 1) := by decide +kernel
theorem dX11_odds_90 : decode cX11_odds 90 = .ok (.ladd, 1) := by decide +kernel
theorem dX11_odds_91 : decode cX11_odds 91 = .ok (.lstore 5, 2) := by decide +kernel
theorem dX11_odds_93 : decode cX11_odds 93 = .ok (.lload 7, 2) := by decide +kernel
theorem dX11_odds_95 : decode cX11_odds 95 = .ok (.iload_n 1, 1) := by decide +kernel
theorem dX11_odds_96 : decode cX11_odds 96 = .ok (.iload 9, 2) := by decide +kernel
theorem dX11_odds_98 : decode cX11_odds 98 = .ok (.isub, 1) := by decide +kernel
theorem dX11_odds_99 : decode cX11_odds 99 = .ok (.i2l, 1) := by decide +kernel
theorem dX11_odds_100 : decode cX11_odds 100 = .ok (.lmul, 1) := by decide +kernel
theorem dX11_odds_101 : decode cX11_odds 101 = .ok (.iload 9, 2) := by decide +kernel
theorem dX11_odds_103 : decode cX11_odds 103 = .ok (.iconst 1, 1) := by decide +kernel
theorem dX11_odds_104 : decode cX11_odds 104 = .ok (.iadd, 1) := by decide +kernel
theorem dX11_odds_105 : decode cX11_odds 105 = .ok (.i2l, 1) := by decide +kernel
theorem dX11_odds_106 : decode cX11_odds 106 = .ok (.ldiv, 1) := by decide +kernel
theorem dX11_odds_107 : decode cX11_odds 107 = .ok (.lstore 7, 2) := by decide +kernel
theorem dX11_odds_109 : decode cX11_odds 109 = .ok (.iinc 9 1, 3) := by decide +kernel
theorem dX11_odds_112 : decode cX11_odds 112 = .ok (.goto (-71), 3) := by decide +kernel
theorem dX11_odds_115 : decode cX11_odds 115 = .ok (.lload 5, 2) := by decide +kernel
theorem dX11_odds_117 : decode cX11_odds 117 = .ok (.ldc2_w 404, 3) := by decide +kernel
theorem dX11_odds_120 : decode cX11_odds 120 = .ok (.lmul, 1) := by decide +kernel
theorem dX11_odds_121 : decode cX11_odds 121 = .ok (.lload_n 3, 1) := by decide +kernel
theorem dX11_odds_122 : decode cX11_odds 122 = .ok (.ldiv, 1) := by decide +kernel
theorem dX11_odds_123 : decode cX11_odds 123 = .ok (.l2i, 1) := by decide +kernel
theorem dX11_odds_124 : decode cX11_odds 124 = .ok (.ireturn, 1) := by decide +kernel
theorem dX11_oldest_0 : decode cX11_oldest 0 = .ok (.iconst (-1), 1) := by decide +kernel
theorem dX11_oldest_1 : decode cX11_oldest 1 = .ok (.istore_n 1, 1) := by decide +kernel
theorem dX11_oldest_2 : decode cX11_oldest 2 = .ok (.iconst 0, 1) := by decide +kernel
theorem dX11_oldest_3 : decode cX11_oldest 3 = .ok (.istore_n 2, 1) := by decide +kernel
theorem dX11_oldest_4 : decode cX11_oldest 4 = .ok (.iload_n 2, 1) := by decide +kernel
theorem dX11_oldest_5 : decode cX11_oldest 5 = .ok (.aload_n 0, 1) := by decide +kernel
theorem dX11_oldest_6 : decode cX11_oldest 6 = .ok (.getfield 42, 3) := by decide +kernel
theorem dX11_oldest_9 : decode cX11_oldest 9 = .ok (.getfield 150, 3) := by decide +kernel
theorem dX11_oldest_12 : decode cX11_oldest 12 = .ok (.getfield 242, 3) := by decide +kernel
theorem dX11_oldest_15 : decode cX11_oldest 15 = .ok (.if_icmp .ge 59, 3) := by decide +kernel
theorem dX11_oldest_18 : decode cX11_oldest 18 = .ok (.aload_n 0, 1) := by decide +kernel
theorem dX11_oldest_19 : decode cX11_oldest 19 = .ok (.getfield 42, 3) := by decide +kernel
theorem dX11_oldest_22 : decode cX11_oldest 22 = .ok (.getfield 150, 3) := by decide +kernel
theorem dX11_oldest_25 : decode cX11_oldest 25 = .ok (.iload_n 2, 1) := by decide +kernel
theorem dX11_oldest_26 : decode cX11_oldest 26 = .ok (.invokevirtual 373, 3) := by decide +kernel
theorem dX11_oldest_29 : decode cX11_oldest 29 = .ok (.ifCond .eq 39, 3) := by decide +kernel
theorem dX11_oldest_32 : decode cX11_oldest 32 = .ok (.iload_n 1, 1) := by decide +kernel
theorem dX11_oldest_33 : decode cX11_oldest 33 = .ok (.iconst (-1), 1) := by decide +kernel
theorem dX11_oldest_34 : decode cX11_oldest 34 = .ok (.if_icmp .eq 32, 3) := by decide +kernel
theorem dX11_oldest_37 : decode cX11_oldest 37 = .ok (.aload_n 0, 1) := by decide +kernel
theorem dX11_oldest_38 : decode cX11_oldest 38 = .ok (.getfield 42, 3) := by decide +kernel
theorem dX11_oldest_41 : decode cX11_oldest 41 = .ok (.getfield 150, 3) := by decide +kernel
theorem dX11_oldest_44 : decode cX11_oldest 44 = .ok (.getfield 183, 3) := by decide +kernel
theorem dX11_oldest_47 : decode cX11_oldest 47 = .ok (.iload_n 2, 1) := by decide +kernel
theorem dX11_oldest_48 : decode cX11_oldest 48 = .ok (.iaload, 1) := by decide +kernel
theorem dX11_oldest_49 : decode cX11_oldest 49 = .ok (.aload_n 0, 1) := by decide +kernel
theorem dX11_oldest_50 : decode cX11_oldest 50 = .ok (.getfield 42, 3) := by decide +kernel
theorem dX11_oldest_53 : decode cX11_oldest 53 = .ok (.getfield 150, 3) := by decide +kernel
theorem dX11_oldest_56 : decode cX11_oldest 56 = .ok (.getfield 183, 3) := by decide +kernel
theorem dX11_oldest_59 : decode cX11_oldest 59 = .ok (.iload_n 1, 1) := by decide +kernel
theorem dX11_oldest_60 : decode cX11_oldest 60 = .ok (.invokestatic 406, 3) := by decide +kernel
theorem dX11_oldest_63 : decode cX11_oldest 63 = .ok (.if_icmp .le 5, 3) := by decide +kernel
theorem dX11_oldest_66 : decode cX11_oldest 66 = .ok (.iload_n 2, 1) := by decide +kernel
theorem dX11_oldest_67 : decode cX11_oldest 67 = .ok (.istore_n 1, 1) := by decide +kernel
theorem dX11_oldest_68 : decode cX11_oldest 68 = .ok (.iinc 2 1, 3) := by decide +kernel
theorem dX11_oldest_71 : decode cX11_oldest 71 = .ok (.goto (-67), 3) := by decide +kernel
theorem dX11_oldest_74 : decode cX11_oldest 74 = .ok (.iload_n 1, 1) := by decide +kernel
theorem dX11_oldest_75 : decode cX11_oldest 75 = .ok (.ireturn, 1) := by decide +kernel
theorem dX11_blue_0 : decode cX11_blue 0 = .ok (.iconst 0, 1) := by decide +kernel
theorem dX11_blue_1 : decode cX11_blue 1 = .ok (.istore_n 1, 1) := by decide +kernel
theorem dX11_blue_2 : decode cX11_blue 2 = .ok (.iconst 0, 1) := by decide +kernel
theorem dX11_blue_3 : decode cX11_blue 3 = .ok (.istore_n 2, 1) := by decide +kernel
theorem dX11_blue_4 : decode cX11_blue 4 = .ok (.iload_n 2, 1) := by decide +kernel
theorem dX11_blue_5 : decode cX11_blue 5 = .ok (.aload_n 0, 1) := by decide +kernel
theorem dX11_blue_6 : decode cX11_blue 6 = .ok (.getfield 42, 3) := by decide +kernel
theorem dX11_blue_9 : decode cX11_blue 9 = .ok (.getfield 150, 3) := by decide +kernel
theorem dX11_blue_12 : decode cX11_blue 12 = .ok (.getfield 242, 3) := by decide +kernel
theorem dX11_blue_15 : decode cX11_blue 15 = .ok (.if_icmp .ge 46, 3) := by decide +kernel
theorem dX11_blue_18 : decode cX11_blue 18 = .ok (.aload_n 0, 1) := by decide +kernel
theorem dX11_blue_19 : decode cX11_blue 19 = .ok (.getfield 42, 3) := by decide +kernel
theorem dX11_blue_22 : decode cX11_blue 22 = .ok (.getfield 150, 3) := by decide +kernel
theorem dX11_blue_25 : decode cX11_blue 25 = .ok (.iload_n 2, 1) := by decide +kernel
theorem dX11_blue_26 : decode cX11_blue 26 = .ok (.invokevirtual 373, 3) := by decide +kernel
theorem dX11_blue_29 : decode cX11_blue 29 = .ok (.ifCond .eq 26, 3) := by decide +kernel
theorem dX11_blue_32 : decode cX11_blue 32 = .ok (.aload_n 0, 1) := by decide +kernel
theorem dX11_blue_33 : decode cX11_blue 33 = .ok (.getfield 42, 3) := by decide +kernel
theorem dX11_blue_36 : decode cX11_blue 36 = .ok (.getfield 150, 3) := by decide +kernel
theorem dX11_blue_39 : decode cX11_blue 39 = .ok (.getfield 186, 3) := by decide +kernel
theorem dX11_blue_42 : decode cX11_blue 42 = .ok (.iload_n 2, 1) := by decide +kernel
theorem dX11_blue_43 : decode cX11_blue 43 = .ok (.iaload, 1) := by decide +kernel
theorem dX11_blue_44 : decode cX11_blue 44 = .ok (.bipush 100, 2) := by decide +kernel
theorem dX11_blue_46 : decode cX11_blue 46 = .ok (.if_icmp .lt 9, 3) := by decide +kernel
theorem dX11_blue_49 : decode cX11_blue 49 = .ok (.iload_n 1, 1) := by decide +kernel
theorem dX11_blue_50 : decode cX11_blue 50 = .ok (.iconst 1, 1) := by decide +kernel
theorem dX11_blue_51 : decode cX11_blue 51 = .ok (.iload_n 2, 1) := by decide +kernel
theorem dX11_blue_52 : decode cX11_blue 52 = .ok (.ishl, 1) := by decide +kernel
theorem dX11_blue_53 : decode cX11_blue 53 = .ok (.ior, 1) := by decide +kernel
theorem dX11_blue_54 : decode cX11_blue 54 = .ok (.istore_n 1, 1) := by decide +kernel
theorem dX11_blue_55 : decode cX11_blue 55 = .ok (.iinc 2 1, 3) := by decide +kernel
theorem dX11_blue_58 : decode cX11_blue 58 = .ok (.goto (-54), 3) := by decide +kernel
theorem dX11_blue_61 : decode cX11_blue 61 = .ok (.iload_n 1, 1) := by decide +kernel
theorem dX11_blue_62 : decode cX11_blue 62 = .ok (.ireturn, 1) := by decide +kernel
theorem dX11_nursed_0 : decode cX11_nursed 0 = .ok (.iconst 0, 1) := by decide +kernel
theorem dX11_nursed_1 : decode cX11_nursed 1 = .ok (.istore_n 1, 1) := by decide +kernel
theorem dX11_nursed_2 : decode cX11_nursed 2 = .ok (.iconst 0, 1) := by decide +kernel
theorem dX11_nursed_3 : decode cX11_nursed 3 = .ok (.istore_n 2, 1) := by decide +kernel
theorem dX11_nursed_4 : decode cX11_nursed 4 = .ok (.iload_n 2, 1) := by decide +kernel
theorem dX11_nursed_5 : decode cX11_nursed 5 = .ok (.aload_n 0, 1) := by decide +kernel
theorem dX11_nursed_6 : decode cX11_nursed 6 = .ok (.getfield 42, 3) := by decide +kernel
theorem dX11_nursed_9 : decode cX11_nursed 9 = .ok (.getfield 150, 3) := by decide +kernel
theorem dX11_nursed_12 : decode cX11_nursed 12 = .ok (.getfield 242, 3) := by decide +kernel
theorem dX11_nursed_15 : decode cX11_nursed 15 = .ok (.if_icmp .ge 44, 3) := by decide +kernel
theorem dX11_nursed_18 : decode cX11_nursed 18 = .ok (.aload_n 0, 1) := by decide +kernel
theorem dX11_nursed_19 : decode cX11_nursed 19 = .ok (.getfield 42, 3) := by decide +kernel
theorem dX11_nursed_22 : decode cX11_nursed 22 = .ok (.getfield 150, 3) := by decide +kernel
theorem dX11_nursed_25 : decode cX11_nursed 25 = .ok (.iload_n 2, 1) := by decide +kernel
theorem dX11_nursed_26 : decode cX11_nursed 26 = .ok (.invokevirtual 373, 3) := by decide +kernel
theorem dX11_nursed_29 : decode cX11_nursed 29 = .ok (.ifCond .eq 24, 3) := by decide +kernel
theorem dX11_nursed_32 : decode cX11_nursed 32 = .ok (.aload_n 0, 1) := by decide +kernel
theorem dX11_nursed_33 : decode cX11_nursed 33 = .ok (.getfield 42, 3) := by decide +kernel
theorem dX11_nursed_36 : decode cX11_nursed 36 = .ok (.getfield 150, 3) := by decide +kernel
theorem dX11_nursed_39 : decode cX11_nursed 39 = .ok (.getfield 189, 3) := by decide +kernel
theorem dX11_nursed_42 : decode cX11_nursed 42 = .ok (.iload_n 2, 1) := by decide +kernel
theorem dX11_nursed_43 : decode cX11_nursed 43 = .ok (.baload, 1) := by decide +kernel
theorem dX11_nursed_44 : decode cX11_nursed 44 = .ok (.ifCond .eq 9, 3) := by decide +kernel
theorem dX11_nursed_47 : decode cX11_nursed 47 = .ok (.iload_n 1, 1) := by decide +kernel
theorem dX11_nursed_48 : decode cX11_nursed 48 = .ok (.iconst 1, 1) := by decide +kernel
theorem dX11_nursed_49 : decode cX11_nursed 49 = .ok (.iload_n 2, 1) := by decide +kernel
theorem dX11_nursed_50 : decode cX11_nursed 50 = .ok (.ishl, 1) := by decide +kernel
theorem dX11_nursed_51 : decode cX11_nursed 51 = .ok (.ior, 1) := by decide +kernel
theorem dX11_nursed_52 : decode cX11_nursed 52 = .ok (.istore_n 1, 1) := by decide +kernel
theorem dX11_nursed_53 : decode cX11_nursed 53 = .ok (.iinc 2 1, 3) := by decide +kernel
theorem dX11_nursed_56 : decode cX11_nursed 56 = .ok (.goto (-52), 3) := by decide +kernel
theorem dX11_nursed_59 : decode cX11_nursed 59 = .ok (.iload_n 1, 1) := by decide +kernel
theorem dX11_nursed_60 : decode cX11_nursed 60 = .ok (.ireturn, 1) := by decide +kernel
theorem dX11_mutual_0 : decode cX11_mutual 0 = .ok (.iconst 0, 1) := by decide +kernel
theorem dX11_mutual_1 : decode cX11_mutual 1 = .ok (.istore_n 1, 1) := by decide +kernel
theorem dX11_mutual_2 : decode cX11_mutual 2 = .ok (.iconst 0, 1) := by decide +kernel
theorem dX11_mutual_3 : decode cX11_mutual 3 = .ok (.istore_n 2, 1) := by decide +kernel
theorem dX11_mutual_4 : decode cX11_mutual 4 = .ok (.iload_n 2, 1) := by decide +kernel
theorem dX11_mutual_5 : decode cX11_mutual 5 = .ok (.aload_n 0, 1) := by decide +kernel
theorem dX11_mutual_6 : decode cX11_mutual 6 = .ok (.getfield 42, 3) := by decide +kernel
theorem dX11_mutual_9 : decode cX11_mutual 9 = .ok (.getfield 150, 3) := by decide +kernel
theorem dX11_mutual_12 : decode cX11_mutual 12 = .ok (.getfield 242, 3) := by decide +kernel
theorem dX11_mutual_15 : decode cX11_mutual 15 = .ok (.if_icmp .ge 67, 3) := by decide +kernel
theorem dX11_mutual_18 : decode cX11_mutual 18 = .ok (.aload_n 0, 1) := by decide +kernel
theorem dX11_mutual_19 : decode cX11_mutual 19 = .ok (.getfield 42, 3) := by decide +kernel
theorem dX11_mutual_22 : decode cX11_mutual 22 = .ok (.getfield 150, 3) := by decide +kernel
theorem dX11_mutual_25 : decode cX11_mutual 25 = .ok (.iload_n 2, 1) := by decide +kernel
theorem dX11_mutual_26 : decode cX11_mutual 26 = .ok (.invokevirtual 373, 3) := by decide +kernel
theorem dX11_mutual_29 : decode cX11_mutual 29 = .ok (.ifCond .eq 47, 3) := by decide +kernel
theorem dX11_mutual_32 : decode cX11_mutual 32 = .ok (.aload_n 0, 1) := by decide +kernel
theorem dX11_mutual_33 : decode cX11_mutual 33 = .ok (.getfield 42, 3) := by decide +kernel
theorem dX11_mutual_36 : decode cX11_mutual 36 = .ok (.getfield 150, 3) := by decide +kernel
theorem dX11_mutual_39 : decode cX11_mutual 39 = .ok (.aload_n 0, 1) := by decide +kernel
theorem dX11_mutual_40 : decode cX11_mutual 40 = .ok (.getfield 42, 3) := by decide +kernel
theorem dX11_mutual_43 : decode cX11_mutual 43 = .ok (.getfield 150, 3) := by decide +kernel
theorem dX11_mutual_46 : decode cX11_mutual 46 = .ok (.getfield 177, 3) := by decide +kernel
theorem dX11_mutual_49 : decode cX11_mutual 49 = .ok (.iload_n 2, 1) := by decide +kernel
theorem dX11_mutual_50 : decode cX11_mutual 50 = .ok (.iaload, 1) := by decide +kernel
theorem dX11_mutual_51 : decode cX11_mutual 51 = .ok (.aload_n 0, 1) := by decide +kernel
theorem dX11_mutual_52 : decode cX11_mutual 52 = .ok (.getfield 42, 3) := by decide +kernel
theorem dX11_mutual_55 : decode cX11_mutual 55 = .ok (.getfield 150, 3) := by decide +kernel
theorem dX11_mutual_58 : decode cX11_mutual 58 = .ok (.getfield 174, 3) := by decide +kernel
theorem dX11_mutual_61 : decode cX11_mutual 61 = .ok (.iload_n 2, 1) := by decide +kernel
theorem dX11_mutual_62 : decode cX11_mutual 62 = .ok (.iaload, 1) := by decide +kernel
theorem dX11_mutual_63 : decode cX11_mutual 63 = .ok (.invokevirtual 238, 3) := by decide +kernel
theorem dX11_mutual_66 : decode cX11_mutual 66 = .ok (.iconst (-1), 1) := by decide +kernel
theorem dX11_mutual_67 : decode cX11_mutual 67 = .ok (.if_icmp .eq 9, 3) := by decide +kernel
theorem dX11_mutual_70 : decode cX11_mutual 70 = .ok (.iload_n 1, 1) := by decide +kernel
theorem dX11_mutual_71 : decode cX11_mutual 71 = .ok (.iconst 1, 1) := by decide +kernel
theorem dX11_mutual_72 : decode cX11_mutual 72 = .ok (.iload_n 2, 1) := by decide +kernel
theorem dX11_mutual_73 : decode cX11_mutual 73 = .ok (.ishl, 1) := by decide +kernel
theorem dX11_mutual_74 : decode cX11_mutual 74 = .ok (.ior, 1) := by decide +kernel
theorem dX11_mutual_75 : decode cX11_mutual 75 = .ok (.istore_n 1, 1) := by decide +kernel
theorem dX11_mutual_76 : decode cX11_mutual 76 = .ok (.iinc 2 1, 3) := by decide +kernel
theorem dX11_mutual_79 : decode cX11_mutual 79 = .ok (.goto (-75), 3) := by decide +kernel
theorem dX11_mutual_82 : decode cX11_mutual 82 = .ok (.iload_n 1, 1) := by decide +kernel
theorem dX11_mutual_83 : decode cX11_mutual 83 = .ok (.ireturn, 1) := by decide +kernel
theorem dX11_proud_0 : decode cX11_proud 0 = .ok (.iconst (-1), 1) := by decide +kernel
theorem dX11_proud_1 : decode cX11_proud 1 = .ok (.istore_n 1, 1) := by decide +kernel
theorem dX11_proud_2 : decode cX11_proud 2 = .ok (.iconst 0, 1) := by decide +kernel
theorem dX11_proud_3 : decode cX11_proud 3 = .ok (.istore_n 2, 1) := by decide +kernel
theorem dX11_proud_4 : decode cX11_proud 4 = .ok (.iload_n 2, 1) := by decide +kernel
theorem dX11_proud_5 : decode cX11_proud 5 = .ok (.aload_n 0, 1) := by decide +kernel
theorem dX11_proud_6 : decode cX11_proud 6 = .ok (.getfield 42, 3) := by decide +kernel
theorem dX11_proud_9 : decode cX11_proud 9 = .ok (.getfield 131, 3) := by decide +kernel
theorem dX11_proud_12 : decode cX11_proud 12 = .ok (.getfield 310, 3) := by decide +kernel
theorem dX11_proud_15 : decode cX11_proud 15 = .ok (.if_icmp .ge 45, 3) := by decide +kernel
theorem dX11_proud_18 : decode cX11_proud 18 = .ok (.iload_n 1, 1) := by decide +kernel
theorem dX11_proud_19 : decode cX11_proud 19 = .ok (.iconst (-1), 1) := by decide +kernel
theorem dX11_proud_20 : decode cX11_proud 20 = .ok (.if_icmp .eq 32, 3) := by decide +kernel
theorem dX11_proud_23 : decode cX11_proud 23 = .ok (.aload_n 0, 1) := by decide +kernel
theorem dX11_proud_24 : decode cX11_proud 24 = .ok (.getfield 42, 3) := by decide +kernel
theorem dX11_proud_27 : decode cX11_proud 27 = .ok (.getfield 131, 3) := by decide +kernel
theorem dX11_proud_30 : decode cX11_proud 30 = .ok (.getfield 135, 3) := by decide +kernel
theorem dX11_proud_33 : decode cX11_proud 33 = .ok (.iload_n 2, 1) := by decide +kernel
theorem dX11_proud_34 : decode cX11_proud 34 = .ok (.iaload, 1) := by decide +kernel
theorem dX11_proud_35 : decode cX11_proud 35 = .ok (.aload_n 0, 1) := by decide +kernel
theorem dX11_proud_36 : decode cX11_proud 36 = .ok (.getfield 42, 3) := by decide +kernel
theorem dX11_proud_39 : decode cX11_proud 39 = .ok (.getfield 131, 3) := by decide +kernel
theorem dX11_proud_42 : decode cX11_proud 42 = .ok (.getfield 135, 3) := by decide +kernel
theorem dX11_proud_45 : decode cX11_proud 45 = .ok (.iload_n 1, 1) := by decide +kernel
theorem dX11_proud_46 : decode cX11_proud 46 = .ok (.invokestatic 406, 3) := by decide +kernel
theorem dX11_proud_49 : decode cX11_proud 49 = .ok (.if_icmp .le 5, 3) := by decide +kernel
theorem dX11_proud_52 : decode cX11_proud 52 = .ok (.iload_n 2, 1) := by decide +kernel
theorem dX11_proud_53 : decode cX11_proud 53 = .ok (.istore_n 1, 1) := by decide +kernel
theorem dX11_proud_54 : decode cX11_proud 54 = .ok (.iinc 2 1, 3) := by decide +kernel
theorem dX11_proud_57 : decode cX11_proud 57 = .ok (.goto (-53), 3) := by decide +kernel
theorem dX11_proud_60 : decode cX11_proud 60 = .ok (.iload_n 1, 1) := by decide +kernel
theorem dX11_proud_61 : decode cX11_proud 61 = .ok (.ireturn, 1) := by decide +kernel
theorem dX11_offs_0 : decode cX11_offs 0 = .ok (.iconst 0, 1) := by decide +kernel
theorem dX11_offs_1 : decode cX11_offs 1 = .ok (.istore_n 1, 1) := by decide +kernel
theorem dX11_offs_2 : decode cX11_offs 2 = .ok (.iconst 0, 1) := by decide +kernel
theorem dX11_offs_3 : decode cX11_offs 3 = .ok (.istore_n 2, 1) := by decide +kernel
theorem dX11_offs_4 : decode cX11_offs 4 = .ok (.iload_n 2, 1) := by decide +kernel
theorem dX11_offs_5 : decode cX11_offs 5 = .ok (.aload_n 0, 1) := by decide +kernel
theorem dX11_offs_6 : decode cX11_offs 6 = .ok (.getfield 42, 3) := by decide +kernel
theorem dX11_offs_9 : decode cX11_offs 9 = .ok (.getfield 131, 3) := by decide +kernel
theorem dX11_offs_12 : decode cX11_offs 12 = .ok (.getfield 310, 3) := by decide +kernel
theorem dX11_offs_15 : decode cX11_offs 15 = .ok (.if_icmp .ge 30, 3) := by decide +kernel
theorem dX11_offs_18 : decode cX11_offs 18 = .ok (.aload_n 0, 1) := by decide +kernel
theorem dX11_offs_19 : decode cX11_offs 19 = .ok (.getfield 42, 3) := by decide +kernel
theorem dX11_offs_22 : decode cX11_offs 22 = .ok (.getfield 131, 3) := by decide +kernel
theorem dX11_offs_25 : decode cX11_offs 25 = .ok (.getfield 147, 3) := by decide +kernel
theorem dX11_offs_28 : decode cX11_offs 28 = .ok (.iload_n 2, 1) := by decide +kernel
theorem dX11_offs_29 : decode cX11_offs 29 = .ok (.iaload, 1) := by decide +kernel
theorem dX11_offs_30 : decode cX11_offs 30 = .ok (.ifCond .le 9, 3) := by decide +kernel
theorem dX11_offs_33 : decode cX11_offs 33 = .ok (.iload_n 1, 1) := by decide +kernel
theorem dX11_offs_34 : decode cX11_offs 34 = .ok (.iconst 1, 1) := by decide +kernel
theorem dX11_offs_35 : decode cX11_offs 35 = .ok (.iload_n 2, 1) := by decide +kernel
theorem dX11_offs_36 : decode cX11_offs 36 = .ok (.ishl, 1) := by decide +kernel
theorem dX11_offs_37 : decode cX11_offs 37 = .ok (.ior, 1) := by decide +kernel
theorem dX11_offs_38 : decode cX11_offs 38 = .ok (.istore_n 1, 1) := by decide +kernel
theorem dX11_offs_39 : decode cX11_offs 39 = .ok (.iinc 2 1, 3) := by decide +kernel
theorem dX11_offs_42 : decode cX11_offs 42 = .ok (.goto (-38), 3) := by decide +kernel
theorem dX11_offs_45 : decode cX11_offs 45 = .ok (.iload_n 1, 1) := by decide +kernel
theorem dX11_offs_46 : decode cX11_offs 46 = .ok (.ireturn, 1) := by decide +kernel
theorem dX11_twins_0 : decode cX11_twins 0 = .ok (.iconst 0, 1) := by decide +kernel
theorem dX11_twins_1 : decode cX11_twins 1 = .ok (.istore_n 1, 1) := by decide +kernel
theorem dX11_twins_2 : decode cX11_twins 2 = .ok (.iconst 0, 1) := by decide +kernel
theorem dX11_twins_3 : decode cX11_twins 3 = .ok (.istore_n 2, 1) := by decide +kernel
theorem dX11_twins_4 : decode cX11_twins 4 = .ok (.iload_n 2, 1) := by decide +kernel
theorem dX11_twins_5 : decode cX11_twins 5 = .ok (.aload_n 0, 1) := by decide +kernel
theorem dX11_twins_6 : decode cX11_twins 6 = .ok (.getfield 42, 3) := by decide +kernel
theorem dX11_twins_9 : decode cX11_twins 9 = .ok (.getfield 150, 3) := by decide +kernel
theorem dX11_twins_12 : decode cX11_twins 12 = .ok (.getfield 242, 3) := by decide +kernel
theorem dX11_twins_15 : decode cX11_twins 15 = .ok (.if_icmp .ge 40, 3) := by decide +kernel
theorem dX11_twins_18 : decode cX11_twins 18 = .ok (.iconst 0, 1) := by decide +kernel
theorem dX11_twins_19 : decode cX11_twins 19 = .ok (.istore_n 3, 1) := by decide +kernel
theorem dX11_twins_20 : decode cX11_twins 20 = .ok (.iload_n 3, 1) := by decide +kernel
theorem dX11_twins_21 : decode cX11_twins 21 = .ok (.iload_n 2, 1) := by decide +kernel
theorem dX11_twins_22 : decode cX11_twins 22 = .ok (.if_icmp .ge 27, 3) := by decide +kernel
theorem dX11_twins_25 : decode cX11_twins 25 = .ok (.aload_n 0, 1) := by decide +kernel
theorem dX11_twins_26 : decode cX11_twins 26 = .ok (.getfield 42, 3) := by decide +kernel
theorem dX11_twins_29 : decode cX11_twins 29 = .ok (.getfield 150, 3) := by decide +kernel
theorem dX11_twins_32 : decode cX11_twins 32 = .ok (.iload_n 2, 1) := by decide +kernel
theorem dX11_twins_33 : decode cX11_twins 33 = .ok (.iload_n 3, 1) := by decide +kernel
theorem dX11_twins_34 : decode cX11_twins 34 = .ok (.invokevirtual 409, 3) := by decide +kernel
theorem dX11_twins_37 : decode cX11_twins 37 = .ok (.ifCond .eq 6, 3) := by decide +kernel
theorem dX11_twins_40 : decode cX11_twins 40 = .ok (.iinc 1 1, 3) := by decide +kernel
theorem dX11_twins_43 : decode cX11_twins 43 = .ok (.iinc 3 1, 3) := by decide +kernel
theorem dX11_twins_46 : decode cX11_twins 46 = .ok (.goto (-26), 3) := by decide +kernel
theorem dX11_twins_49 : decode cX11_twins 49 = .ok (.iinc 2 1, 3) := by decide +kernel
theorem dX11_twins_52 : decode cX11_twins 52 = .ok (.goto (-48), 3) := by decide +kernel
theorem dX11_twins_55 : decode cX11_twins 55 = .ok (.iload_n 1, 1) := by decide +kernel
theorem dX11_twins_56 : decode cX11_twins 56 = .ok (.ireturn, 1) := by decide +kernel
theorem dX11_ahead_0 : decode cX11_ahead 0 = .ok (.aload_n 0, 1) := by decide +kernel
theorem dX11_ahead_1 : decode cX11_ahead 1 = .ok (.iload_n 1, 1) := by decide +kernel
theorem dX11_ahead_2 : decode cX11_ahead 2 = .ok (.invokevirtual 171, 3) := by decide +kernel
theorem dX11_ahead_5 : decode cX11_ahead 5 = .ok (.aload_n 0, 1) := by decide +kernel
theorem dX11_ahead_6 : decode cX11_ahead 6 = .ok (.iload_n 2, 1) := by decide +kernel
theorem dX11_ahead_7 : decode cX11_ahead 7 = .ok (.iconst 0, 1) := by decide +kernel
theorem dX11_ahead_8 : decode cX11_ahead 8 = .ok (.bipush 60, 2) := by decide +kernel
theorem dX11_ahead_10 : decode cX11_ahead 10 = .ok (.invokevirtual 223, 3) := by decide +kernel
theorem dX11_ahead_13 : decode cX11_ahead 13 = .ok (.aload_n 0, 1) := by decide +kernel
theorem dX11_ahead_14 : decode cX11_ahead 14 = .ok (.getfield 46, 3) := by decide +kernel
theorem dX11_ahead_17 : decode cX11_ahead 17 = .ok (.aload_n 0, 1) := by decide +kernel
theorem dX11_ahead_18 : decode cX11_ahead 18 = .ok (.getfield 42, 3) := by decide +kernel
theorem dX11_ahead_21 : decode cX11_ahead 21 = .ok (.invokevirtual 95, 3) := by decide +kernel
theorem dX11_ahead_24 : decode cX11_ahead 24 = .ok (.iconst 0, 1) := by decide +kernel
theorem dX11_ahead_25 : decode cX11_ahead 25 = .ok (.istore_n 3, 1) := by decide +kernel
theorem dX11_ahead_26 : decode cX11_ahead 26 = .ok (.iload_n 3, 1) := by decide +kernel
theorem dX11_ahead_27 : decode cX11_ahead 27 = .ok (.iload_n 2, 1) := by decide +kernel
theorem dX11_ahead_28 : decode cX11_ahead 28 = .ok (.if_icmp .ge 22, 3) := by decide +kernel
theorem dX11_ahead_31 : decode cX11_ahead 31 = .ok (.aload_n 0, 1) := by decide +kernel
theorem dX11_ahead_32 : decode cX11_ahead 32 = .ok (.getfield 46, 3) := by decide +kernel
theorem dX11_ahead_35 : decode cX11_ahead 35 = .ok (.aload_n 0, 1) := by decide +kernel
theorem dX11_ahead_36 : decode cX11_ahead 36 = .ok (.getfield 52, 3) := by decide +kernel
theorem dX11_ahead_39 : decode cX11_ahead 39 = .ok (.iconst 0, 1) := by decide +kernel
theorem dX11_ahead_40 : decode cX11_ahead 40 = .ok (.invokevirtual 230, 3) := by decide +kernel
theorem dX11_ahead_43 : decode cX11_ahead 43 = .ok (.pop, 1) := by decide +kernel
theorem dX11_ahead_44 : decode cX11_ahead 44 = .ok (.iinc 3 1, 3) := by decide +kernel
theorem dX11_ahead_47 : decode cX11_ahead 47 = .ok (.goto (-21), 3) := by decide +kernel
theorem dX11_ahead_50 : decode cX11_ahead 50 = .ok (.aload_n 0, 1) := by decide +kernel
theorem dX11_ahead_51 : decode cX11_ahead 51 = .ok (.getfield 46, 3) := by decide +kernel
theorem dX11_ahead_54 : decode cX11_ahead 54 = .ok (.getfield 150, 3) := by decide +kernel
theorem dX11_ahead_57 : decode cX11_ahead 57 = .ok (.getfield 186, 3) := by decide +kernel
theorem dX11_ahead_60 : decode cX11_ahead 60 = .ok (.iload_n 1, 1) := by decide +kernel
theorem dX11_ahead_61 : decode cX11_ahead 61 = .ok (.iaload, 1) := by decide +kernel
theorem dX11_ahead_62 : decode cX11_ahead 62 = .ok (.ireturn, 1) := by decide +kernel
theorem dX11_larder_0 : decode cX11_larder 0 = .ok (.aload_n 0, 1) := by decide +kernel
theorem dX11_larder_1 : decode cX11_larder 1 = .ok (.iload_n 1, 1) := by decide +kernel
theorem dX11_larder_2 : decode cX11_larder 2 = .ok (.invokevirtual 128, 3) := by decide +kernel
theorem dX11_larder_5 : decode cX11_larder 5 = .ok (.aload_n 0, 1) := by decide +kernel
theorem dX11_larder_6 : decode cX11_larder 6 = .ok (.iload_n 2, 1) := by decide +kernel
theorem dX11_larder_7 : decode cX11_larder 7 = .ok (.iconst 0, 1) := by decide +kernel
theorem dX11_larder_8 : decode cX11_larder 8 = .ok (.bipush 60, 2) := by decide +kernel
theorem dX11_larder_10 : decode cX11_larder 10 = .ok (.invokevirtual 223, 3) := by decide +kernel
theorem dX11_larder_13 : decode cX11_larder 13 = .ok (.aload_n 0, 1) := by decide +kernel
theorem dX11_larder_14 : decode cX11_larder 14 = .ok (.getfield 46, 3) := by decide +kernel
theorem dX11_larder_17 : decode cX11_larder 17 = .ok (.aload_n 0, 1) := by decide +kernel
theorem dX11_larder_18 : decode cX11_larder 18 = .ok (.getfield 42, 3) := by decide +kernel
theorem dX11_larder_21 : decode cX11_larder 21 = .ok (.invokevirtual 95, 3) := by decide +kernel
theorem dX11_larder_24 : decode cX11_larder 24 = .ok (.iconst 0, 1) := by decide +kernel
theorem dX11_larder_25 : decode cX11_larder 25 = .ok (.istore_n 3, 1) := by decide +kernel
theorem dX11_larder_26 : decode cX11_larder 26 = .ok (.iload_n 3, 1) := by decide +kernel
theorem dX11_larder_27 : decode cX11_larder 27 = .ok (.iload_n 2, 1) := by decide +kernel
theorem dX11_larder_28 : decode cX11_larder 28 = .ok (.if_icmp .ge 19, 3) := by decide +kernel
theorem dX11_larder_31 : decode cX11_larder 31 = .ok (.aload_n 0, 1) := by decide +kernel
theorem dX11_larder_32 : decode cX11_larder 32 = .ok (.getfield 46, 3) := by decide +kernel
theorem dX11_larder_35 : decode cX11_larder 35 = .ok (.getfield 131, 3) := by decide +kernel
theorem dX11_larder_38 : decode cX11_larder 38 = .ok (.invokevirtual 412, 3) := by decide +kernel
theorem dX11_larder_41 : decode cX11_larder 41 = .ok (.iinc 3 1, 3) := by decide +kernel
theorem dX11_larder_44 : decode cX11_larder 44 = .ok (.goto (-18), 3) := by decide +kernel
theorem dX11_larder_47 : decode cX11_larder 47 = .ok (.aload_n 0, 1) := by decide +kernel
theorem dX11_larder_48 : decode cX11_larder 48 = .ok (.getfield 46, 3) := by decide +kernel
theorem dX11_larder_51 : decode cX11_larder 51 = .ok (.getfield 131, 3) := by decide +kernel
theorem dX11_larder_54 : decode cX11_larder 54 = .ok (.getfield 144, 3) := by decide +kernel
theorem dX11_larder_57 : decode cX11_larder 57 = .ok (.iload_n 1, 1) := by decide +kernel
theorem dX11_larder_58 : decode cX11_larder 58 = .ok (.iaload, 1) := by decide +kernel
theorem dX11_larder_59 : decode cX11_larder 59 = .ok (.ireturn, 1) := by decide +kernel
theorem dX11_trial_0 : decode cX11_trial 0 = .ok (.aload_n 0, 1) := by decide +kernel
theorem dX11_trial_1 : decode cX11_trial 1 = .ok (.iload_n 1, 1) := by decide +kernel
theorem dX11_trial_2 : decode cX11_trial 2 = .ok (.iconst 0, 1) := by decide +kernel
theorem dX11_trial_3 : decode cX11_trial 3 = .ok (.bipush 60, 2) := by decide +kernel
theorem dX11_trial_5 : decode cX11_trial 5 = .ok (.invokevirtual 223, 3) := by decide +kernel
theorem dX11_trial_8 : decode cX11_trial 8 = .ok (.aload_n 0, 1) := by decide +kernel
theorem dX11_trial_9 : decode cX11_trial 9 = .ok (.aload_n 0, 1) := by decide +kernel
theorem dX11_trial_10 : decode cX11_trial 10 = .ok (.getfield 42, 3) := by decide +kernel
theorem dX11_trial_13 : decode cX11_trial 13 = .ok (.getfield 415, 3) := by decide +kernel
theorem dX11_trial_16 : decode cX11_trial 16 = .ok (.iload_n 1, 1) := by decide +kernel
theorem dX11_trial_17 : decode cX11_trial 17 = .ok (.invokevirtual 418, 3) := by decide +kernel
theorem dX11_trial_20 : decode cX11_trial 20 = .ok (.iload_n 2, 1) := by decide +kernel
theorem dX11_trial_21 : decode cX11_trial 21 = .ok (.ifCond .eq 16, 3) := by decide +kernel
theorem dX11_trial_24 : decode cX11_trial 24 = .ok (.aload_n 0, 1) := by decide +kernel
theorem dX11_trial_25 : decode cX11_trial 25 = .ok (.getfield 46, 3) := by decide +kernel
theorem dX11_trial_28 : decode cX11_trial 28 = .ok (.getfield 150, 3) := by decide +kernel
theorem dX11_trial_31 : decode cX11_trial 31 = .ok (.invokevirtual 300, 3) := by decide +kernel
theorem dX11_trial_34 : decode cX11_trial 34 = .ok (.goto 13, 3) := by decide +kernel
theorem dX11_trial_37 : decode cX11_trial 37 = .ok (.aload_n 0, 1) := by decide +kernel
theorem dX11_trial_38 : decode cX11_trial 38 = .ok (.getfield 46, 3) := by decide +kernel
theorem dX11_trial_41 : decode cX11_trial 41 = .ok (.getfield 150, 3) := by decide +kernel
theorem dX11_trial_44 : decode cX11_trial 44 = .ok (.invokevirtual 421, 3) := by decide +kernel
theorem dX11_trial_47 : decode cX11_trial 47 = .ok (.ireturn, 1) := by decide +kernel
theorem dX11_span_0 : decode cX11_span 0 = .ok (.aload_n 0, 1) := by decide +kernel
theorem dX11_span_1 : decode cX11_span 1 = .ok (.iload_n 1, 1) := by decide +kernel
theorem dX11_span_2 : decode cX11_span 2 = .ok (.iconst 0, 1) := by decide +kernel
theorem dX11_span_3 : decode cX11_span 3 = .ok (.bipush 60, 2) := by decide +kernel
theorem dX11_span_5 : decode cX11_span 5 = .ok (.invokevirtual 223, 3) := by decide +kernel
theorem dX11_span_8 : decode cX11_span 8 = .ok (.iconst (-1), 1) := by decide +kernel
theorem dX11_span_9 : decode cX11_span 9 = .ok (.istore_n 3, 1) := by decide +kernel
theorem dX11_span_10 : decode cX11_span 10 = .ok (.iconst 1, 1) := by decide +kernel
theorem dX11_span_11 : decode cX11_span 11 = .ok (.istore 4, 2) := by decide +kernel
theorem dX11_span_13 : decode cX11_span 13 = .ok (.iload 4, 2) := by decide +kernel
theorem dX11_span_15 : decode cX11_span 15 = .ok (.bipush 6, 2) := by decide +kernel
theorem dX11_span_17 : decode cX11_span 17 = .ok (.if_icmp .gt 55, 3) := by decide +kernel
theorem dX11_span_20 : decode cX11_span 20 = .ok (.aload_n 0, 1) := by decide +kernel
theorem dX11_span_21 : decode cX11_span 21 = .ok (.iload 4, 2) := by decide +kernel
theorem dX11_span_23 : decode cX11_span 23 = .ok (.iload_n 1, 1) := by decide +kernel
theorem dX11_span_24 : decode cX11_span 24 = .ok (.invokevirtual 418, 3) := by decide +kernel
theorem dX11_span_27 : decode cX11_span 27 = .ok (.aload_n 0, 1) := by decide +kernel
theorem dX11_span_28 : decode cX11_span 28 = .ok (.getfield 46, 3) := by decide +kernel
theorem dX11_span_31 : decode cX11_span 31 = .ok (.getfield 150, 3) := by decide +kernel
theorem dX11_span_34 : decode cX11_span 34 = .ok (.invokevirtual 300, 3) := by decide +kernel
theorem dX11_span_37 : decode cX11_span 37 = .ok (.istore 5, 2) := by decide +kernel
theorem dX11_span_39 : decode cX11_span 39 = .ok (.iload_n 3, 1) := by decide +kernel
theorem dX11_span_40 : decode cX11_span 40 = .ok (.iconst (-1), 1) := by decide +kernel
theorem dX11_span_41 : decode cX11_span 41 = .ok (.if_icmp .eq 22, 3) := by decide +kernel
theorem dX11_span_44 : decode cX11_span 44 = .ok (.iload_n 2, 1) := by decide +kernel
theorem dX11_span_45 : decode cX11_span 45 = .ok (.ifCond .eq 12, 3) := by decide +kernel
theorem dX11_span_48 : decode cX11_span 48 = .ok (.iload 5, 2) := by decide +kernel
theorem dX11_span_50 : decode cX11_span 50 = .ok (.iload_n 3, 1) := by decide +kernel
theorem dX11_span_51 : decode cX11_span 51 = .ok (.if_icmp .le 15, 3) := by decide +kernel
theorem dX11_span_54 : decode cX11_span 54 = .ok (.goto 9, 3) := by decide +kernel
theorem dX11_span_57 : decode cX11_span 57 = .ok (.iload 5, 2) := by decide +kernel
theorem dX11_span_59 : decode cX11_span 59 = .ok (.iload_n 3, 1) := by decide +kernel
theorem dX11_span_60 : decode cX11_span 60 = .ok (.if_icmp .ge 6, 3) := by decide +kernel
theorem dX11_span_63 : decode cX11_span 63 = .ok (.iload 5, 2) := by decide +kernel
theorem dX11_span_65 : decode cX11_span 65 = .ok (.istore_n 3, 1) := by decide +kernel
theorem dX11_span_66 : decode cX11_span 66 = .ok (.iinc 4 1, 3) := by decide +kernel
theorem dX11_span_69 : decode cX11_span 69 = .ok (.goto (-56), 3) := by decide +kernel
theorem dX11_span_72 : decode cX11_span 72 = .ok (.iload_n 3, 1) := by decide +kernel
theorem dX11_span_73 : decode cX11_span 73 = .ok (.ireturn, 1) := by decide +kernel
theorem dX11_led_0 : decode cX11_led 0 = .ok (.aload_n 0, 1) := by decide +kernel
theorem dX11_led_1 : decode cX11_led 1 = .ok (.iload_n 1, 1) := by decide +kernel
theorem dX11_led_2 : decode cX11_led 2 = .ok (.invokevirtual 171, 3) := by decide +kernel
theorem dX11_led_5 : decode cX11_led 5 = .ok (.iload_n 2, 1) := by decide +kernel
theorem dX11_led_6 : decode cX11_led 6 = .ok (.ifCond .eq 17, 3) := by decide +kernel
theorem dX11_led_9 : decode cX11_led 9 = .ok (.aload_n 0, 1) := by decide +kernel
theorem dX11_led_10 : decode cX11_led 10 = .ok (.getfield 42, 3) := by decide +kernel
theorem dX11_led_13 : decode cX11_led 13 = .ok (.getfield 260, 3) := by decide +kernel
theorem dX11_led_16 : decode cX11_led 16 = .ok (.iload_n 1, 1) := by decide +kernel
theorem dX11_led_17 : decode cX11_led 17 = .ok (.invokevirtual 424, 3) := by decide +kernel
theorem dX11_led_20 : decode cX11_led 20 = .ok (.goto 14, 3) := by decide +kernel
theorem dX11_led_23 : decode cX11_led 23 = .ok (.aload_n 0, 1) := by decide +kernel
theorem dX11_led_24 : decode cX11_led 24 = .ok (.getfield 42, 3) := by decide +kernel
theorem dX11_led_27 : decode cX11_led 27 = .ok (.getfield 260, 3) := by decide +kernel
theorem dX11_led_30 : decode cX11_led 30 = .ok (.iload_n 1, 1) := by decide +kernel
theorem dX11_led_31 : decode cX11_led 31 = .ok (.invokevirtual 427, 3) := by decide +kernel
theorem dX11_led_34 : decode cX11_led 34 = .ok (.ireturn, 1) := by decide +kernel
theorem dX11_log_0 : decode cX11_log 0 = .ok (.iload_n 2, 1) := by decide +kernel
theorem dX11_log_1 : decode cX11_log 1 = .ok (.ifCond .lt 8, 3) := by decide +kernel
theorem dX11_log_4 : decode cX11_log 4 = .ok (.iload_n 2, 1) := by decide +kernel
theorem dX11_log_5 : decode cX11_log 5 = .ok (.iconst 4, 1) := by decide +kernel
theorem dX11_log_6 : decode cX11_log 6 = .ok (.if_icmp .lt 13, 3) := by decide +kernel
theorem dX11_log_9 : decode cX11_log 9 = .ok (.new 166, 3) := by decide +kernel
theorem dX11_log_12 : decode cX11_log 12 = .ok (.dup, 1) := by decide +kernel
theorem dX11_log_13 : decode cX11_log 13 = .ok (.ldc 168, 2) := by decide +kernel
theorem dX11_log_15 : decode cX11_log 15 = .ok (.invokespecial 170, 3) := by decide +kernel
theorem dX11_log_18 : decode cX11_log 18 = .ok (.athrow, 1) := by decide +kernel
theorem dX11_log_19 : decode cX11_log 19 = .ok (.aload_n 0, 1) := by decide +kernel
theorem dX11_log_20 : decode cX11_log 20 = .ok (.getfield 42, 3) := by decide +kernel
theorem dX11_log_23 : decode cX11_log 23 = .ok (.getfield 260, 3) := by decide +kernel
theorem dX11_log_26 : decode cX11_log 26 = .ok (.iload_n 1, 1) := by decide +kernel
theorem dX11_log_27 : decode cX11_log 27 = .ok (.iload_n 2, 1) := by decide +kernel
theorem dX11_log_28 : decode cX11_log 28 = .ok (.invokevirtual 430, 3) := by decide +kernel
theorem dX11_log_31 : decode cX11_log 31 = .ok (.ireturn, 1) := by decide +kernel
theorem dX11_seed_0 : decode cX11_seed 0 = .ok (.aload_n 0, 1) := by decide +kernel
theorem dX11_seed_1 : decode cX11_seed 1 = .ok (.getfield 42, 3) := by decide +kernel
theorem dX11_seed_4 : decode cX11_seed 4 = .ok (.getfield 415, 3) := by decide +kernel
theorem dX11_seed_7 : decode cX11_seed 7 = .ok (.istore_n 2, 1) := by decide +kernel
theorem dX11_seed_8 : decode cX11_seed 8 = .ok (.aload_n 0, 1) := by decide +kernel
theorem dX11_seed_9 : decode cX11_seed 9 = .ok (.getfield 42, 3) := by decide +kernel
theorem dX11_seed_12 : decode cX11_seed 12 = .ok (.iload_n 1, 1) := by decide +kernel
theorem dX11_seed_13 : decode cX11_seed 13 = .ok (.putfield 415, 3) := by decide +kernel
theorem dX11_seed_16 : decode cX11_seed 16 = .ok (.iload_n 2, 1) := by decide +kernel
theorem dX11_seed_17 : decode cX11_seed 17 = .ok (.ireturn, 1) := by decide +kernel
theorem dX11_undo_0 : decode cX11_undo 0 = .ok (.aload_n 0, 1) := by decide +kernel
theorem dX11_undo_1 : decode cX11_undo 1 = .ok (.getfield 62, 3) := by decide +kernel
theorem dX11_undo_4 : decode cX11_undo 4 = .ok (.aload_n 0, 1) := by decide +kernel
theorem dX11_undo_5 : decode cX11_undo 5 = .ok (.getfield 42, 3) := by decide +kernel
theorem dX11_undo_8 : decode cX11_undo 8 = .ok (.invokevirtual 432, 3) := by decide +kernel
theorem dX11_undo_11 : decode cX11_undo 11 = .ok (.ireturn, 1) := by decide +kernel
theorem dX11_image_0 : decode cX11_image 0 = .ok (.aload_n 0, 1) := by decide +kernel
theorem dX11_image_1 : decode cX11_image 1 = .ok (.getfield 73, 3) := by decide +kernel
theorem dX11_image_4 : decode cX11_image 4 = .ok (.aload_n 0, 1) := by decide +kernel
theorem dX11_image_5 : decode cX11_image 5 = .ok (.getfield 42, 3) := by decide +kernel
theorem dX11_image_8 : decode cX11_image 8 = .ok (.invokevirtual 95, 3) := by decide +kernel
theorem dX11_image_11 : decode cX11_image 11 = .ok (.aload_n 0, 1) := by decide +kernel
theorem dX11_image_12 : decode cX11_image 12 = .ok (.getfield 76, 3) := by decide +kernel
theorem dX11_image_15 : decode cX11_image 15 = .ok (.aload_n 0, 1) := by decide +kernel
theorem dX11_image_16 : decode cX11_image 16 = .ok (.getfield 52, 3) := by decide +kernel
theorem dX11_image_19 : decode cX11_image 19 = .ok (.invokevirtual 120, 3) := by decide +kernel
theorem dX11_image_22 : decode cX11_image 22 = .ok (.aload_n 0, 1) := by decide +kernel
theorem dX11_image_23 : decode cX11_image 23 = .ok (.iconst 1, 1) := by decide +kernel
theorem dX11_image_24 : decode cX11_image 24 = .ok (.putfield 79, 3) := by decide +kernel
theorem dX11_image_27 : decode cX11_image 27 = .ok (.return_, 1) := by decide +kernel
theorem dX11_back_0 : decode cX11_back 0 = .ok (.aload_n 0, 1) := by decide +kernel
theorem dX11_back_1 : decode cX11_back 1 = .ok (.getfield 79, 3) := by decide +kernel
theorem dX11_back_4 : decode cX11_back 4 = .ok (.ifCond .ne 5, 3) := by decide +kernel
theorem dX11_back_7 : decode cX11_back 7 = .ok (.iconst 0, 1) := by decide +kernel
theorem dX11_back_8 : decode cX11_back 8 = .ok (.ireturn, 1) := by decide +kernel
theorem dX11_back_9 : decode cX11_back 9 = .ok (.aload_n 0, 1) := by decide +kernel
theorem dX11_back_10 : decode cX11_back 10 = .ok (.getfield 42, 3) := by decide +kernel
theorem dX11_back_13 : decode cX11_back 13 = .ok (.aload_n 0, 1) := by decide +kernel
theorem dX11_back_14 : decode cX11_back 14 = .ok (.getfield 73, 3) := by decide +kernel
theorem dX11_back_17 : decode cX11_back 17 = .ok (.invokevirtual 95, 3) := by decide +kernel
theorem dX11_back_20 : decode cX11_back 20 = .ok (.aload_n 0, 1) := by decide +kernel
theorem dX11_back_21 : decode cX11_back 21 = .ok (.getfield 52, 3) := by decide +kernel
theorem dX11_back_24 : decode cX11_back 24 = .ok (.aload_n 0, 1) := by decide +kernel
theorem dX11_back_25 : decode cX11_back 25 = .ok (.getfield 76, 3) := by decide +kernel
theorem dX11_back_28 : decode cX11_back 28 = .ok (.invokevirtual 120, 3) := by decide +kernel
theorem dX11_back_31 : decode cX11_back 31 = .ok (.aload_n 0, 1) := by decide +kernel
theorem dX11_back_32 : decode cX11_back 32 = .ok (.getfield 62, 3) := by decide +kernel
theorem dX11_back_35 : decode cX11_back 35 = .ok (.invokevirtual 111, 3) := by decide +kernel
theorem dX11_back_38 : decode cX11_back 38 = .ok (.iconst 1, 1) := by decide +kernel
theorem dX11_back_39 : decode cX11_back 39 = .ok (.ireturn, 1) := by decide +kernel
theorem dX11_count_0 : decode cX11_count 0 = .ok (.iload_n 1, 1) := by decide +kernel
theorem dX11_count_1 : decode cX11_count 1 = .ok (.tableswitch 182 0 11 #[63, 74, 85, 93, 101, 109, 117, 133, 141, 152, 163, 174], 63) := by decide +kernel
theorem dX11_count_64 : decode cX11_count 64 = .ok (.aload_n 0, 1) := by decide +kernel
theorem dX11_count_65 : decode cX11_count 65 = .ok (.getfield 42, 3) := by decide +kernel
theorem dX11_count_68 : decode cX11_count 68 = .ok (.getfield 131, 3) := by decide +kernel
theorem dX11_count_71 : decode cX11_count 71 = .ok (.getfield 310, 3) := by decide +kernel
theorem dX11_count_74 : decode cX11_count 74 = .ok (.ireturn, 1) := by decide +kernel
theorem dX11_count_75 : decode cX11_count 75 = .ok (.aload_n 0, 1) := by decide +kernel
theorem dX11_count_76 : decode cX11_count 76 = .ok (.getfield 42, 3) := by decide +kernel
theorem dX11_count_79 : decode cX11_count 79 = .ok (.getfield 150, 3) := by decide +kernel
theorem dX11_count_82 : decode cX11_count 82 = .ok (.invokevirtual 421, 3) := by decide +kernel
theorem dX11_count_85 : decode cX11_count 85 = .ok (.ireturn, 1) := by decide +kernel
theorem dX11_count_86 : decode cX11_count 86 = .ok (.aload_n 0, 1) := by decide +kernel
theorem dX11_count_87 : decode cX11_count 87 = .ok (.getfield 42, 3) := by decide +kernel
theorem dX11_count_90 : decode cX11_count 90 = .ok (.getfield 101, 3) := by decide +kernel
theorem dX11_count_93 : decode cX11_count 93 = .ok (.ireturn, 1) := by decide +kernel
theorem dX11_count_94 : decode cX11_count 94 = .ok (.aload_n 0, 1) := by decide +kernel
theorem dX11_count_95 : decode cX11_count 95 = .ok (.getfield 52, 3) := by decide +kernel
theorem dX11_count_98 : decode cX11_count 98 = .ok (.getfield 122, 3) := by decide +kernel
theorem dX11_count_101 : decode cX11_count 101 = .ok (.ireturn, 1) := by decide +kernel
theorem dX11_count_102 : decode cX11_count 102 = .ok (.aload_n 0, 1) := by decide +kernel
theorem dX11_count_103 : decode cX11_count 103 = .ok (.getfield 42, 3) := by decide +kernel
theorem dX11_count_106 : decode cX11_count 106 = .ok (.getfield 264, 3) := by decide +kernel
theorem dX11_count_109 : decode cX11_count 109 = .ok (.ireturn, 1) := by decide +kernel
theorem dX11_count_110 : decode cX11_count 110 = .ok (.aload_n 0, 1) := by decide +kernel
theorem dX11_count_111 : decode cX11_count 111 = .ok (.getfield 42, 3) := by decide +kernel
theorem dX11_count_114 : decode cX11_count 114 = .ok (.getfield 287, 3) := by decide +kernel
theorem dX11_count_117 : decode cX11_count 117 = .ok (.ireturn, 1) := by decide +kernel
theorem dX11_count_118 : decode cX11_count 118 = .ok (.aload_n 0, 1) := by decide +kernel
theorem dX11_count_119 : decode cX11_count 119 = .ok (.getfield 42, 3) := by decide +kernel
theorem dX11_count_122 : decode cX11_count 122 = .ok (.getfield 297, 3) := by decide +kernel
theorem dX11_count_125 : decode cX11_count 125 = .ok (.ifCond .eq 7, 3) := by decide +kernel
theorem dX11_count_128 : decode cX11_count 128 = .ok (.iconst 1, 1) := by decide +kernel
theorem dX11_count_129 : decode cX11_count 129 = .ok (.goto 4, 3) := by decide +kernel
theorem dX11_count_132 : decode cX11_count 132 = .ok (.iconst 0, 1) := by decide +kernel
theorem dX11_count_133 : decode cX11_count 133 = .ok (.ireturn, 1) := by decide +kernel
theorem dX11_count_134 : decode cX11_count 134 = .ok (.aload_n 0, 1) := by decide +kernel
theorem dX11_count_135 : decode cX11_count 135 = .ok (.getfield 42, 3) := by decide +kernel
theorem dX11_count_138 : decode cX11_count 138 = .ok (.getfield 401, 3) := by decide +kernel
theorem dX11_count_141 : decode cX11_count 141 = .ok (.ireturn, 1) := by decide +kernel
theorem dX11_count_142 : decode cX11_count 142 = .ok (.aload_n 0, 1) := by decide +kernel
theorem dX11_count_143 : decode cX11_count 143 = .ok (.getfield 42, 3) := by decide +kernel
theorem dX11_count_146 : decode cX11_count 146 = .ok (.getfield 150, 3) := by decide +kernel
theorem dX11_count_149 : decode cX11_count 149 = .ok (.invokevirtual 300, 3) := by decide +kernel
theorem dX11_count_152 : decode cX11_count 152 = .ok (.ireturn, 1) := by decide +kernel
theorem dX11_count_153 : decode cX11_count 153 = .ok (.aload_n 0, 1) := by decide +kernel
theorem dX11_count_154 : decode cX11_count 154 = .ok (.getfield 42, 3) := by decide +kernel
theorem dX11_count_157 : decode cX11_count 157 = .ok (.getfield 131, 3) := by decide +kernel
theorem dX11_count_160 : decode cX11_count 160 = .ok (.invokevirtual 436, 3) := by decide +kernel
theorem dX11_count_163 : decode cX11_count 163 = .ok (.ireturn, 1) := by decide +kernel
theorem dX11_count_164 : decode cX11_count 164 = .ok (.aload_n 0, 1) := by decide +kernel
theorem dX11_count_165 : decode cX11_count 165 = .ok (.getfield 42, 3) := by decide +kernel
theorem dX11_count_168 : decode cX11_count 168 = .ok (.getfield 260, 3) := by decide +kernel
theorem dX11_count_171 : decode cX11_count 171 = .ok (.getfield 439, 3) := by decide +kernel
theorem dX11_count_174 : decode cX11_count 174 = .ok (.ireturn, 1) := by decide +kernel
theorem dX11_count_175 : decode cX11_count 175 = .ok (.aload_n 0, 1) := by decide +kernel
theorem dX11_count_176 : decode cX11_count 176 = .ok (.getfield 62, 3) := by decide +kernel
theorem dX11_count_179 : decode cX11_count 179 = .ok (.getfield 440, 3) := by decide +kernel
theorem dX11_count_182 : decode cX11_count 182 = .ok (.ireturn, 1) := by decide +kernel
theorem dX11_count_183 : decode cX11_count 183 = .ok (.iconst (-1), 1) := by decide +kernel
theorem dX11_count_184 : decode cX11_count 184 = .ok (.ireturn, 1) := by decide +kernel
theorem dX11_needFamily_0 : decode cX11_needFamily 0 = .ok (.iload_n 1, 1) := by decide +kernel
theorem dX11_needFamily_1 : decode cX11_needFamily 1 = .ok (.ifCond .lt 17, 3) := by decide +kernel
theorem dX11_needFamily_4 : decode cX11_needFamily 4 = .ok (.iload_n 1, 1) := by decide +kernel
theorem dX11_needFamily_5 : decode cX11_needFamily 5 = .ok (.aload_n 0, 1) := by decide +kernel
theorem dX11_needFamily_6 : decode cX11_needFamily 6 = .ok (.getfield 42, 3) := by decide +kernel
theorem dX11_needFamily_9 : decode cX11_needFamily 9 = .ok (.getfield 131, 3) := by decide +kernel
theorem dX11_needFamily_12 : decode cX11_needFamily 12 = .ok (.getfield 310, 3) := by decide +kernel
theorem dX11_needFamily_15 : decode cX11_needFamily 15 = .ok (.if_icmp .lt 14, 3) := by decide +kernel
theorem dX11_needFamily_18 : decode cX11_needFamily 18 = .ok (.new 215, 3) := by decide +kernel
theorem dX11_needFamily_21 : decode cX11_needFamily 21 = .ok (.dup, 1) := by decide +kernel
theorem dX11_needFamily_22 : decode cX11_needFamily 22 = .ok (.ldc_w 441, 3) := by decide +kernel
theorem dX11_needFamily_25 : decode cX11_needFamily 25 = .ok (.invokespecial 219, 3) := by decide +kernel
theorem dX11_needFamily_28 : decode cX11_needFamily 28 = .ok (.athrow, 1) := by decide +kernel
theorem dX11_needFamily_29 : decode cX11_needFamily 29 = .ok (.return_, 1) := by decide +kernel
theorem dX11_needGrudge_0 : decode cX11_needGrudge 0 = .ok (.iload_n 1, 1) := by decide +kernel
theorem dX11_needGrudge_1 : decode cX11_needGrudge 1 = .ok (.ifCond .lt 17, 3) := by decide +kernel
theorem dX11_needGrudge_4 : decode cX11_needGrudge 4 = .ok (.iload_n 1, 1) := by decide +kernel
theorem dX11_needGrudge_5 : decode cX11_needGrudge 5 = .ok (.aload_n 0, 1) := by decide +kernel
theorem dX11_needGrudge_6 : decode cX11_needGrudge 6 = .ok (.getfield 42, 3) := by decide +kernel
theorem dX11_needGrudge_9 : decode cX11_needGrudge 9 = .ok (.getfield 150, 3) := by decide +kernel
theorem dX11_needGrudge_12 : decode cX11_needGrudge 12 = .ok (.getfield 242, 3) := by decide +kernel
theorem dX11_needGrudge_15 : decode cX11_needGrudge 15 = .ok (.if_icmp .lt 14, 3) := by decide +kernel
theorem dX11_needGrudge_18 : decode cX11_needGrudge 18 = .ok (.new 215, 3) := by decide +kernel
theorem dX11_needGrudge_21 : decode cX11_needGrudge 21 = .ok (.dup, 1) := by decide +kernel
theorem dX11_needGrudge_22 : decode cX11_needGrudge 22 = .ok (.ldc_w 443, 3) := by decide +kernel
theorem dX11_needGrudge_25 : decode cX11_needGrudge 25 = .ok (.invokespecial 219, 3) := by decide +kernel
theorem dX11_needGrudge_28 : decode cX11_needGrudge 28 = .ok (.athrow, 1) := by decide +kernel
theorem dX11_needGrudge_29 : decode cX11_needGrudge 29 = .ok (.return_, 1) := by decide +kernel
theorem dX11_needSlight_0 : decode cX11_needSlight 0 = .ok (.iload_n 1, 1) := by decide +kernel
theorem dX11_needSlight_1 : decode cX11_needSlight 1 = .ok (.ifCond .lt 9, 3) := by decide +kernel
theorem dX11_needSlight_4 : decode cX11_needSlight 4 = .ok (.iload_n 1, 1) := by decide +kernel
theorem dX11_needSlight_5 : decode cX11_needSlight 5 = .ok (.bipush 8, 2) := by decide +kernel
theorem dX11_needSlight_7 : decode cX11_needSlight 7 = .ok (.if_icmp .lt 14, 3) := by decide +kernel
theorem dX11_needSlight_10 : decode cX11_needSlight 10 = .ok (.new 215, 3) := by decide +kernel
theorem dX11_needSlight_13 : decode cX11_needSlight 13 = .ok (.dup, 1) := by decide +kernel
theorem dX11_needSlight_14 : decode cX11_needSlight 14 = .ok (.ldc_w 445, 3) := by decide +kernel
theorem dX11_needSlight_17 : decode cX11_needSlight 17 = .ok (.invokespecial 219, 3) := by decide +kernel
theorem dX11_needSlight_20 : decode cX11_needSlight 20 = .ok (.athrow, 1) := by decide +kernel
theorem dX11_needSlight_21 : decode cX11_needSlight 21 = .ok (.return_, 1) := by decide +kernel
theorem dX11_needNumber_0 : decode cX11_needNumber 0 = .ok (.iload_n 1, 1) := by decide +kernel
theorem dX11_needNumber_1 : decode cX11_needNumber 1 = .ok (.iload_n 2, 1) := by decide +kernel
theorem dX11_needNumber_2 : decode cX11_needNumber 2 = .ok (.if_icmp .lt 8, 3) := by decide +kernel
theorem dX11_needNumber_5 : decode cX11_needNumber 5 = .ok (.iload_n 1, 1) := by decide +kernel
theorem dX11_needNumber_6 : decode cX11_needNumber 6 = .ok (.iload_n 3, 1) := by decide +kernel
theorem dX11_needNumber_7 : decode cX11_needNumber 7 = .ok (.if_icmp .le 14, 3) := by decide +kernel
theorem dX11_needNumber_10 : decode cX11_needNumber 10 = .ok (.new 447, 3) := by decide +kernel
theorem dX11_needNumber_13 : decode cX11_needNumber 13 = .ok (.dup, 1) := by decide +kernel
theorem dX11_needNumber_14 : decode cX11_needNumber 14 = .ok (.ldc_w 449, 3) := by decide +kernel
theorem dX11_needNumber_17 : decode cX11_needNumber 17 = .ok (.invokespecial 451, 3) := by decide +kernel
theorem dX11_needNumber_20 : decode cX11_needNumber 20 = .ok (.athrow, 1) := by decide +kernel
theorem dX11_needNumber_21 : decode cX11_needNumber 21 = .ok (.return_, 1) := by decide +kernel
theorem dX11_needTwo_0 : decode cX11_needTwo 0 = .ok (.iload_n 1, 1) := by decide +kernel
theorem dX11_needTwo_1 : decode cX11_needTwo 1 = .ok (.iload_n 2, 1) := by decide +kernel
theorem dX11_needTwo_2 : decode cX11_needTwo 2 = .ok (.if_icmp .ne 14, 3) := by decide +kernel
theorem dX11_needTwo_5 : decode cX11_needTwo 5 = .ok (.new 447, 3) := by decide +kernel
theorem dX11_needTwo_8 : decode cX11_needTwo 8 = .ok (.dup, 1) := by decide +kernel
theorem dX11_needTwo_9 : decode cX11_needTwo 9 = .ok (.ldc_w 452, 3) := by decide +kernel
theorem dX11_needTwo_12 : decode cX11_needTwo 12 = .ok (.invokespecial 451, 3) := by decide +kernel
theorem dX11_needTwo_15 : decode cX11_needTwo 15 = .ok (.athrow, 1) := by decide +kernel
theorem dX11_needTwo_16 : decode cX11_needTwo 16 = .ok (.return_, 1) := by decide +kernel
theorem dX11_needFrozen_0 : decode cX11_needFrozen 0 = .ok (.aload_n 0, 1) := by decide +kernel
theorem dX11_needFrozen_1 : decode cX11_needFrozen 1 = .ok (.getfield 42, 3) := by decide +kernel
theorem dX11_needFrozen_4 : decode cX11_needFrozen 4 = .ok (.getfield 150, 3) := by decide +kernel
theorem dX11_needFrozen_7 : decode cX11_needFrozen 7 = .ok (.iload_n 1, 1) := by decide +kernel
theorem dX11_needFrozen_8 : decode cX11_needFrozen 8 = .ok (.invokevirtual 373, 3) := by decide +kernel
theorem dX11_needFrozen_11 : decode cX11_needFrozen 11 = .ok (.ifCond .ne 14, 3) := by decide +kernel
theorem dX11_needFrozen_14 : decode cX11_needFrozen 14 = .ok (.new 245, 3) := by decide +kernel
theorem dX11_needFrozen_17 : decode cX11_needFrozen 17 = .ok (.dup, 1) := by decide +kernel
theorem dX11_needFrozen_18 : decode cX11_needFrozen 18 = .ok (.ldc_w 454, 3) := by decide +kernel
theorem dX11_needFrozen_21 : decode cX11_needFrozen 21 = .ok (.invokespecial 249, 3) := by decide +kernel
theorem dX11_needFrozen_24 : decode cX11_needFrozen 24 = .ok (.athrow, 1) := by decide +kernel
theorem dX11_needFrozen_25 : decode cX11_needFrozen 25 = .ok (.return_, 1) := by decide +kernel
theorem dX11_needIce_0 : decode cX11_needIce 0 = .ok (.aload_n 0, 1) := by decide +kernel
theorem dX11_needIce_1 : decode cX11_needIce 1 = .ok (.getfield 42, 3) := by decide +kernel
theorem dX11_needIce_4 : decode cX11_needIce 4 = .ok (.getfield 150, 3) := by decide +kernel
theorem dX11_needIce_7 : decode cX11_needIce 7 = .ok (.getfield 186, 3) := by decide +kernel
theorem dX11_needIce_10 : decode cX11_needIce 10 = .ok (.iload_n 1, 1) := by decide +kernel
theorem dX11_needIce_11 : decode cX11_needIce 11 = .ok (.invokestatic 406, 3) := by decide +kernel
theorem dX11_needIce_14 : decode cX11_needIce 14 = .ok (.iload_n 2, 1) := by decide +kernel
theorem dX11_needIce_15 : decode cX11_needIce 15 = .ok (.if_icmp .ge 14, 3) := by decide +kernel
theorem dX11_needIce_18 : decode cX11_needIce 18 = .ok (.new 245, 3) := by decide +kernel
theorem dX11_needIce_21 : decode cX11_needIce 21 = .ok (.dup, 1) := by decide +kernel
theorem dX11_needIce_22 : decode cX11_needIce 22 = .ok (.ldc_w 456, 3) := by decide +kernel
theorem dX11_needIce_25 : decode cX11_needIce 25 = .ok (.invokespecial 249, 3) := by decide +kernel
theorem dX11_needIce_28 : decode cX11_needIce 28 = .ok (.athrow, 1) := by decide +kernel
theorem dX11_needIce_29 : decode cX11_needIce 29 = .ok (.return_, 1) := by decide +kernel
theorem dX11_needCuts_0 : decode cX11_needCuts 0 = .ok (.iload_n 1, 1) := by decide +kernel
theorem dX11_needCuts_1 : decode cX11_needCuts 1 = .ok (.bipush 40, 2) := by decide +kernel
theorem dX11_needCuts_3 : decode cX11_needCuts 3 = .ok (.if_icmp .gt 9, 3) := by decide +kernel
theorem dX11_needCuts_6 : decode cX11_needCuts 6 = .ok (.iload_n 1, 1) := by decide +kernel
theorem dX11_needCuts_7 : decode cX11_needCuts 7 = .ok (.iconst 2, 1) := by decide +kernel
theorem dX11_needCuts_8 : decode cX11_needCuts 8 = .ok (.irem, 1) := by decide +kernel
theorem dX11_needCuts_9 : decode cX11_needCuts 9 = .ok (.ifCond .eq 14, 3) := by decide +kernel
theorem dX11_needCuts_12 : decode cX11_needCuts 12 = .ok (.new 447, 3) := by decide +kernel
theorem dX11_needCuts_15 : decode cX11_needCuts 15 = .ok (.dup, 1) := by decide +kernel
theorem dX11_needCuts_16 : decode cX11_needCuts 16 = .ok (.ldc_w 458, 3) := by decide +kernel
theorem dX11_needCuts_19 : decode cX11_needCuts 19 = .ok (.invokespecial 451, 3) := by decide +kernel
theorem dX11_needCuts_22 : decode cX11_needCuts 22 = .ok (.athrow, 1) := by decide +kernel
theorem dX11_needCuts_23 : decode cX11_needCuts 23 = .ok (.iconst 0, 1) := by decide +kernel
theorem dX11_needCuts_24 : decode cX11_needCuts 24 = .ok (.istore_n 2, 1) := by decide +kernel
theorem dX11_needCuts_25 : decode cX11_needCuts 25 = .ok (.iload_n 2, 1) := by decide +kernel
theorem dX11_needCuts_26 : decode cX11_needCuts 26 = .ok (.iload_n 1, 1) := by decide +kernel
theorem dX11_needCuts_27 : decode cX11_needCuts 27 = .ok (.if_icmp .ge 43, 3) := by decide +kernel
theorem dX11_needCuts_30 : decode cX11_needCuts 30 = .ok (.aload_n 0, 1) := by decide +kernel
theorem dX11_needCuts_31 : decode cX11_needCuts 31 = .ok (.getfield 12, 3) := by decide +kernel
theorem dX11_needCuts_34 : decode cX11_needCuts 34 = .ok (.iload_n 2, 1) := by decide +kernel
theorem dX11_needCuts_35 : decode cX11_needCuts 35 = .ok (.invokevirtual 460, 3) := by decide +kernel
theorem dX11_needCuts_38 : decode cX11_needCuts 38 = .ok (.iload_n 2, 1) := by decide +kernel
theorem dX11_needCuts_39 : decode cX11_needCuts 39 = .ok (.iconst 2, 1) := by decide +kernel
theorem dX11_needCuts_40 : decode cX11_needCuts 40 = .ok (.irem, 1) := by decide +kernel
theorem dX11_needCuts_41 : decode cX11_needCuts 41 = .ok (.ifCond .ne 7, 3) := by decide +kernel
theorem dX11_needCuts_44 : decode cX11_needCuts 44 = .ok (.iconst 1, 1) := by decide +kernel
theorem dX11_needCuts_45 : decode cX11_needCuts 45 = .ok (.goto 5, 3) := by decide +kernel
theorem dX11_needCuts_48 : decode cX11_needCuts 48 = .ok (.bipush 9, 2) := by decide +kernel
theorem dX11_needCuts_50 : decode cX11_needCuts 50 = .ok (.if_icmp .le 14, 3) := by decide +kernel
theorem dX11_needCuts_53 : decode cX11_needCuts 53 = .ok (.new 447, 3) := by decide +kernel
theorem dX11_needCuts_56 : decode cX11_needCuts 56 = .ok (.dup, 1) := by decide +kernel
theorem dX11_needCuts_57 : decode cX11_needCuts 57 = .ok (.ldc_w 463, 3) := by decide +kernel
theorem dX11_needCuts_60 : decode cX11_needCuts 60 = .ok (.invokespecial 451, 3) := by decide +kernel
theorem dX11_needCuts_63 : decode cX11_needCuts 63 = .ok (.athrow, 1) := by decide +kernel
theorem dX11_needCuts_64 : decode cX11_needCuts 64 = .ok (.iinc 2 1, 3) := by decide +kernel
theorem dX11_needCuts_67 : decode cX11_needCuts 67 = .ok (.goto (-42), 3) := by decide +kernel
theorem dX11_needCuts_70 : decode cX11_needCuts 70 = .ok (.return_, 1) := by decide +kernel
theorem dX11_runTrial_0 : decode cX11_runTrial 0 = .ok (.aload_n 0, 1) := by decide +kernel
theorem dX11_runTrial_1 : decode cX11_runTrial 1 = .ok (.getfield 46, 3) := by decide +kernel
theorem dX11_runTrial_4 : decode cX11_runTrial 4 = .ok (.aload_n 0, 1) := by decide +kernel
theorem dX11_runTrial_5 : decode cX11_runTrial 5 = .ok (.getfield 42, 3) := by decide +kernel
theorem dX11_runTrial_8 : decode cX11_runTrial 8 = .ok (.invokevirtual 95, 3) := by decide +kernel
theorem dX11_runTrial_11 : decode cX11_runTrial 11 = .ok (.aload_n 0, 1) := by decide +kernel
theorem dX11_runTrial_12 : decode cX11_runTrial 12 = .ok (.getfield 46, 3) := by decide +kernel
theorem dX11_runTrial_15 : decode cX11_runTrial 15 = .ok (.iload_n 1, 1) := by decide +kernel
theorem dX11_runTrial_16 : decode cX11_runTrial 16 = .ok (.putfield 415, 3) := by decide +kernel
theorem dX11_runTrial_19 : decode cX11_runTrial 19 = .ok (.iconst 0, 1) := by decide +kernel
theorem dX11_runTrial_20 : decode cX11_runTrial 20 = .ok (.istore_n 3, 1) := by decide +kernel
theorem dX11_runTrial_21 : decode cX11_runTrial 21 = .ok (.iload_n 3, 1) := by decide +kernel
theorem dX11_runTrial_22 : decode cX11_runTrial 22 = .ok (.iload_n 2, 1) := by decide +kernel
theorem dX11_runTrial_23 : decode cX11_runTrial 23 = .ok (.if_icmp .ge 22, 3) := by decide +kernel
theorem dX11_runTrial_26 : decode cX11_runTrial 26 = .ok (.aload_n 0, 1) := by decide +kernel
theorem dX11_runTrial_27 : decode cX11_runTrial 27 = .ok (.getfield 46, 3) := by decide +kernel
theorem dX11_runTrial_30 : decode cX11_runTrial 30 = .ok (.aload_n 0, 1) := by decide +kernel
theorem dX11_runTrial_31 : decode cX11_runTrial 31 = .ok (.getfield 52, 3) := by decide +kernel
theorem dX11_runTrial_34 : decode cX11_runTrial 34 = .ok (.iconst 1, 1) := by decide +kernel
theorem dX11_runTrial_35 : decode cX11_runTrial 35 = .ok (.invokevirtual 230, 3) := by decide +kernel
theorem dX11_runTrial_38 : decode cX11_runTrial 38 = .ok (.pop, 1) := by decide +kernel
theorem dX11_runTrial_39 : decode cX11_runTrial 39 = .ok (.iinc 3 1, 3) := by decide +kernel
theorem dX11_runTrial_42 : decode cX11_runTrial 42 = .ok (.goto (-21), 3) := by decide +kernel
theorem dX11_runTrial_45 : decode cX11_runTrial 45 = .ok (.return_, 1) := by decide +kernel
theorem dX11_greatestPart_0 : decode cX11_greatestPart 0 = .ok (.iconst 0, 1) := by decide +kernel
theorem dX11_greatestPart_1 : decode cX11_greatestPart 1 = .ok (.istore_n 2, 1) := by decide +kernel
theorem dX11_greatestPart_2 : decode cX11_greatestPart 2 = .ok (.iconst 0, 1) := by decide +kernel
theorem dX11_greatestPart_3 : decode cX11_greatestPart 3 = .ok (.istore_n 3, 1) := by decide +kernel
theorem dX11_greatestPart_4 : decode cX11_greatestPart 4 = .ok (.iload_n 3, 1) := by decide +kernel
theorem dX11_greatestPart_5 : decode cX11_greatestPart 5 = .ok (.bipush 9, 2) := by decide +kernel
theorem dX11_greatestPart_7 : decode cX11_greatestPart 7 = .ok (.if_icmp .gt 57, 3) := by decide +kernel
theorem dX11_greatestPart_10 : decode cX11_greatestPart 10 = .ok (.iconst 0, 1) := by decide +kernel
theorem dX11_greatestPart_11 : decode cX11_greatestPart 11 = .ok (.istore 4, 2) := by decide +kernel
theorem dX11_greatestPart_13 : decode cX11_greatestPart 13 = .ok (.iconst 0, 1) := by decide +kernel
theorem dX11_greatestPart_14 : decode cX11_greatestPart 14 = .ok (.istore 5, 2) := by decide +kernel
theorem dX11_greatestPart_16 : decode cX11_greatestPart 16 = .ok (.iload 5, 2) := by decide +kernel
theorem dX11_greatestPart_18 : decode cX11_greatestPart 18 = .ok (.bipush 8, 2) := by decide +kernel
theorem dX11_greatestPart_20 : decode cX11_greatestPart 20 = .ok (.if_icmp .ge 31, 3) := by decide +kernel
theorem dX11_greatestPart_23 : decode cX11_greatestPart 23 = .ok (.iload_n 1, 1) := by decide +kernel
theorem dX11_greatestPart_24 : decode cX11_greatestPart 24 = .ok (.iload 5, 2) := by decide +kernel
theorem dX11_greatestPart_26 : decode cX11_greatestPart 26 = .ok (.invokestatic 465, 3) := by decide +kernel
theorem dX11_greatestPart_29 : decode cX11_greatestPart 29 = .ok (.ifCond .eq 16, 3) := by decide +kernel
theorem dX11_greatestPart_32 : decode cX11_greatestPart 32 = .ok (.aload_n 0, 1) := by decide +kernel
theorem dX11_greatestPart_33 : decode cX11_greatestPart 33 = .ok (.iload 5, 2) := by decide +kernel
theorem dX11_greatestPart_35 : decode cX11_greatestPart 35 = .ok (.invokestatic 406, 3) := by decide +kernel
theorem dX11_greatestPart_38 : decode cX11_greatestPart 38 = .ok (.iload_n 3, 1) := by decide +kernel
theorem dX11_greatestPart_39 : decode cX11_greatestPart 39 = .ok (.if_icmp .ne 6, 3) := by decide +kernel
theorem dX11_greatestPart_42 : decode cX11_greatestPart 42 = .ok (.iinc 4 1, 3) := by decide +kernel
theorem dX11_greatestPart_45 : decode cX11_greatestPart 45 = .ok (.iinc 5 1, 3) := by decide +kernel
theorem dX11_greatestPart_48 : decode cX11_greatestPart 48 = .ok (.goto (-32), 3) := by decide +kernel
theorem dX11_greatestPart_51 : decode cX11_greatestPart 51 = .ok (.iload_n 2, 1) := by decide +kernel
theorem dX11_greatestPart_52 : decode cX11_greatestPart 52 = .ok (.iload 4, 2) := by decide +kernel
theorem dX11_greatestPart_54 : decode cX11_greatestPart 54 = .ok (.invokestatic 318, 3) := by decide +kernel
theorem dX11_greatestPart_57 : decode cX11_greatestPart 57 = .ok (.istore_n 2, 1) := by decide +kernel
theorem dX11_greatestPart_58 : decode cX11_greatestPart 58 = .ok (.iinc 3 1, 3) := by decide +kernel
theorem dX11_greatestPart_61 : decode cX11_greatestPart 61 = .ok (.goto (-57), 3) := by decide +kernel
theorem dX11_greatestPart_64 : decode cX11_greatestPart 64 = .ok (.iload_n 2, 1) := by decide +kernel
theorem dX11_greatestPart_65 : decode cX11_greatestPart 65 = .ok (.ireturn, 1) := by decide +kernel
theorem dX11_power_0 : decode cX11_power 0 = .ok (.lconst 1, 1) := by decide +kernel
theorem dX11_power_1 : decode cX11_power 1 = .ok (.lstore_n 3, 1) := by decide +kernel
theorem dX11_power_2 : decode cX11_power 2 = .ok (.iconst 0, 1) := by decide +kernel
theorem dX11_power_3 : decode cX11_power 3 = .ok (.istore 5, 2) := by decide +kernel
theorem dX11_power_5 : decode cX11_power 5 = .ok (.iload 5, 2) := by decide +kernel
theorem dX11_power_7 : decode cX11_power 7 = .ok (.iload_n 2, 1) := by decide +kernel
theorem dX11_power_8 : decode cX11_power 8 = .ok (.if_icmp .ge 13, 3) := by decide +kernel
theorem dX11_power_11 : decode cX11_power 11 = .ok (.lload_n 3, 1) := by decide +kernel
theorem dX11_power_12 : decode cX11_power 12 = .ok (.lload_n 0, 1) := by decide +kernel
theorem dX11_power_13 : decode cX11_power 13 = .ok (.lmul, 1) := by decide +kernel
theorem dX11_power_14 : decode cX11_power 14 = .ok (.lstore_n 3, 1) := by decide +kernel
theorem dX11_power_15 : decode cX11_power 15 = .ok (.iinc 5 1, 3) := by decide +kernel
theorem dX11_power_18 : decode cX11_power 18 = .ok (.goto (-13), 3) := by decide +kernel
theorem dX11_power_21 : decode cX11_power 21 = .ok (.lload_n 3, 1) := by decide +kernel
theorem dX11_power_22 : decode cX11_power 22 = .ok (.lreturn, 1) := by decide +kernel
theorem dX11_has_0 : decode cX11_has 0 = .ok (.iload_n 0, 1) := by decide +kernel
theorem dX11_has_1 : decode cX11_has 1 = .ok (.iload_n 1, 1) := by decide +kernel
theorem dX11_has_2 : decode cX11_has 2 = .ok (.ishr, 1) := by decide +kernel
theorem dX11_has_3 : decode cX11_has 3 = .ok (.iconst 1, 1) := by decide +kernel
theorem dX11_has_4 : decode cX11_has 4 = .ok (.iand, 1) := by decide +kernel
theorem dX11_has_5 : decode cX11_has 5 = .ok (.ifCond .eq 7, 3) := by decide +kernel
theorem dX11_has_8 : decode cX11_has 8 = .ok (.iconst 1, 1) := by decide +kernel
theorem dX11_has_9 : decode cX11_has 9 = .ok (.goto 4, 3) := by decide +kernel
theorem dX11_has_12 : decode cX11_has 12 = .ok (.iconst 0, 1) := by decide +kernel
theorem dX11_has_13 : decode cX11_has 13 = .ok (.ireturn, 1) := by decide +kernel
theorem dX11_cell_0 : decode cX11_cell 0 = .ok (.iload_n 1, 1) := by decide +kernel
theorem dX11_cell_1 : decode cX11_cell 1 = .ok (.ifCond .lt 15, 3) := by decide +kernel
theorem dX11_cell_4 : decode cX11_cell 4 = .ok (.iload_n 1, 1) := by decide +kernel
theorem dX11_cell_5 : decode cX11_cell 5 = .ok (.aload_n 0, 1) := by decide +kernel
theorem dX11_cell_6 : decode cX11_cell 6 = .ok (.arraylength, 1) := by decide +kernel
theorem dX11_cell_7 : decode cX11_cell 7 = .ok (.if_icmp .ge 9, 3) := by decide +kernel
theorem dX11_cell_10 : decode cX11_cell 10 = .ok (.aload_n 0, 1) := by decide +kernel
theorem dX11_cell_11 : decode cX11_cell 11 = .ok (.iload_n 1, 1) := by decide +kernel
theorem dX11_cell_12 : decode cX11_cell 12 = .ok (.iaload, 1) := by decide +kernel
theorem dX11_cell_13 : decode cX11_cell 13 = .ok (.goto 4, 3) := by decide +kernel
theorem dX11_cell_16 : decode cX11_cell 16 = .ok (.iconst 0, 1) := by decide +kernel
theorem dX11_cell_17 : decode cX11_cell 17 = .ok (.ireturn, 1) := by decide +kernel
theorem dX11_write_0 : decode cX11_write 0 = .ok (.iload_n 1, 1) := by decide +kernel
theorem dX11_write_1 : decode cX11_write 1 = .ok (.ifCond .lt 13, 3) := by decide +kernel
theorem dX11_write_4 : decode cX11_write 4 = .ok (.iload_n 1, 1) := by decide +kernel
theorem dX11_write_5 : decode cX11_write 5 = .ok (.aload_n 0, 1) := by decide +kernel
theorem dX11_write_6 : decode cX11_write 6 = .ok (.arraylength, 1) := by decide +kernel
theorem dX11_write_7 : decode cX11_write 7 = .ok (.if_icmp .ge 7, 3) := by decide +kernel
theorem dX11_write_10 : decode cX11_write 10 = .ok (.aload_n 0, 1) := by decide +kernel
theorem dX11_write_11 : decode cX11_write 11 = .ok (.iload_n 1, 1) := by decide +kernel
theorem dX11_write_12 : decode cX11_write 12 = .ok (.iload_n 2, 1) := by decide +kernel
theorem dX11_write_13 : decode cX11_write 13 = .ok (.iastore, 1) := by decide +kernel
theorem dX11_write_14 : decode cX11_write 14 = .ok (.return_, 1) := by decide +kernel
theorem dX11_copy_0 : decode cX11_copy 0 = .ok (.aload_n 0, 1) := by decide +kernel
theorem dX11_copy_1 : decode cX11_copy 1 = .ok (.iconst 0, 1) := by decide +kernel
theorem dX11_copy_2 : decode cX11_copy 2 = .ok (.aload_n 1, 1) := by decide +kernel
theorem dX11_copy_3 : decode cX11_copy 3 = .ok (.iconst 0, 1) := by decide +kernel
theorem dX11_copy_4 : decode cX11_copy 4 = .ok (.aload_n 0, 1) := by decide +kernel
theorem dX11_copy_5 : decode cX11_copy 5 = .ok (.arraylength, 1) := by decide +kernel
theorem dX11_copy_6 : decode cX11_copy 6 = .ok (.aload_n 1, 1) := by decide +kernel
theorem dX11_copy_7 : decode cX11_copy 7 = .ok (.arraylength, 1) := by decide +kernel
theorem dX11_copy_8 : decode cX11_copy 8 = .ok (.invokestatic 290, 3) := by decide +kernel
theorem dX11_copy_11 : decode cX11_copy 11 = .ok (.invokestatic 468, 3) := by decide +kernel
theorem dX11_copy_14 : decode cX11_copy 14 = .ok (.return_, 1) := by decide +kernel
theorem dJ6_numberOfTrailingZeros_0f7a4_0 : decode cJ6_numberOfTrailingZeros_0f7a4 0 = .ok (.iload_n 0, 1) := by decide +kernel
theorem dJ6_numberOfTrailingZeros_0f7a4_1 : decode cJ6_numberOfTrailingZeros_0f7a4 1 = .ok (.iconst (-1), 1) := by decide +kernel
theorem dJ6_numberOfTrailingZeros_0f7a4_2 : decode cJ6_numberOfTrailingZeros_0f7a4 2 = .ok (.ixor, 1) := by decide +kernel
theorem dJ6_numberOfTrailingZeros_0f7a4_3 : decode cJ6_numberOfTrailingZeros_0f7a4 3 = .ok (.iload_n 0, 1) := by decide +kernel
theorem dJ6_numberOfTrailingZeros_0f7a4_4 : decode cJ6_numberOfTrailingZeros_0f7a4 4 = .ok (.iconst 1, 1) := by decide +kernel
theorem dJ6_numberOfTrailingZeros_0f7a4_5 : decode cJ6_numberOfTrailingZeros_0f7a4 5 = .ok (.isub, 1) := by decide +kernel
theorem dJ6_numberOfTrailingZeros_0f7a4_6 : decode cJ6_numberOfTrailingZeros_0f7a4 6 = .ok (.iand, 1) := by decide +kernel
theorem dJ6_numberOfTrailingZeros_0f7a4_7 : decode cJ6_numberOfTrailingZeros_0f7a4 7 = .ok (.istore_n 0, 1) := by decide +kernel
theorem dJ6_numberOfTrailingZeros_0f7a4_8 : decode cJ6_numberOfTrailingZeros_0f7a4 8 = .ok (.iload_n 0, 1) := by decide +kernel
theorem dJ6_numberOfTrailingZeros_0f7a4_9 : decode cJ6_numberOfTrailingZeros_0f7a4 9 = .ok (.ifCond .gt 8, 3) := by decide +kernel
theorem dJ6_numberOfTrailingZeros_0f7a4_12 : decode cJ6_numberOfTrailingZeros_0f7a4 12 = .ok (.iload_n 0, 1) := by decide +kernel
theorem dJ6_numberOfTrailingZeros_0f7a4_13 : decode cJ6_numberOfTrailingZeros_0f7a4 13 = .ok (.bipush 32, 2) := by decide +kernel
theorem dJ6_numberOfTrailingZeros_0f7a4_15 : decode cJ6_numberOfTrailingZeros_0f7a4 15 = .ok (.iand, 1) := by decide +kernel
theorem dJ6_numberOfTrailingZeros_0f7a4_16 : decode cJ6_numberOfTrailingZeros_0f7a4 16 = .ok (.ireturn, 1) := by decide +kernel
theorem dJ6_numberOfTrailingZeros_0f7a4_17 : decode cJ6_numberOfTrailingZeros_0f7a4 17 = .ok (.iconst 1, 1) := by decide +kernel
theorem dJ6_numberOfTrailingZeros_0f7a4_18 : decode cJ6_numberOfTrailingZeros_0f7a4 18 = .ok (.istore_n 1, 1) := by decide +kernel
theorem dJ6_numberOfTrailingZeros_0f7a4_19 : decode cJ6_numberOfTrailingZeros_0f7a4 19 = .ok (.iload_n 0, 1) := by decide +kernel
theorem dJ6_numberOfTrailingZeros_0f7a4_20 : decode cJ6_numberOfTrailingZeros_0f7a4 20 = .ok (.ldc_w 264, 3) := by decide +kernel
theorem dJ6_numberOfTrailingZeros_0f7a4_23 : decode cJ6_numberOfTrailingZeros_0f7a4 23 = .ok (.if_icmp .le 11, 3) := by decide +kernel
theorem dJ6_numberOfTrailingZeros_0f7a4_26 : decode cJ6_numberOfTrailingZeros_0f7a4 26 = .ok (.iinc 1 16, 3) := by decide +kernel
theorem dJ6_numberOfTrailingZeros_0f7a4_29 : decode cJ6_numberOfTrailingZeros_0f7a4 29 = .ok (.iload_n 0, 1) := by decide +kernel
theorem dJ6_numberOfTrailingZeros_0f7a4_30 : decode cJ6_numberOfTrailingZeros_0f7a4 30 = .ok (.bipush 16, 2) := by decide +kernel
theorem dJ6_numberOfTrailingZeros_0f7a4_32 : decode cJ6_numberOfTrailingZeros_0f7a4 32 = .ok (.iushr, 1) := by decide +kernel
theorem dJ6_numberOfTrailingZeros_0f7a4_33 : decode cJ6_numberOfTrailingZeros_0f7a4 33 = .ok (.istore_n 0, 1) := by decide +kernel
theorem dJ6_numberOfTrailingZeros_0f7a4_34 : decode cJ6_numberOfTrailingZeros_0f7a4 34 = .ok (.iload_n 0, 1) := by decide +kernel
theorem dJ6_numberOfTrailingZeros_0f7a4_35 : decode cJ6_numberOfTrailingZeros_0f7a4 35 = .ok (.sipush 256, 3) := by decide +kernel
theorem dJ6_numberOfTrailingZeros_0f7a4_38 : decode cJ6_numberOfTrailingZeros_0f7a4 38 = .ok (.if_icmp .le 11, 3) := by decide +kernel
theorem dJ6_numberOfTrailingZeros_0f7a4_41 : decode cJ6_numberOfTrailingZeros_0f7a4 41 = .ok (.iinc 1 8, 3) := by decide +kernel
theorem dJ6_numberOfTrailingZeros_0f7a4_44 : decode cJ6_numberOfTrailingZeros_0f7a4 44 = .ok (.iload_n 0, 1) := by decide +kernel
theorem dJ6_numberOfTrailingZeros_0f7a4_45 : decode cJ6_numberOfTrailingZeros_0f7a4 45 = .ok (.bipush 8, 2) := by decide +kernel
theorem dJ6_numberOfTrailingZeros_0f7a4_47 : decode cJ6_numberOfTrailingZeros_0f7a4 47 = .ok (.iushr, 1) := by decide +kernel
theorem dJ6_numberOfTrailingZeros_0f7a4_48 : decode cJ6_numberOfTrailingZeros_0f7a4 48 = .ok (.istore_n 0, 1) := by decide +kernel
theorem dJ6_numberOfTrailingZeros_0f7a4_49 : decode cJ6_numberOfTrailingZeros_0f7a4 49 = .ok (.iload_n 0, 1) := by decide +kernel
theorem dJ6_numberOfTrailingZeros_0f7a4_50 : decode cJ6_numberOfTrailingZeros_0f7a4 50 = .ok (.bipush 16, 2) := by decide +kernel
theorem dJ6_numberOfTrailingZeros_0f7a4_52 : decode cJ6_numberOfTrailingZeros_0f7a4 52 = .ok (.if_icmp .le 10, 3) := by decide +kernel
theorem dJ6_numberOfTrailingZeros_0f7a4_55 : decode cJ6_numberOfTrailingZeros_0f7a4 55 = .ok (.iinc 1 4, 3) := by decide +kernel
theorem dJ6_numberOfTrailingZeros_0f7a4_58 : decode cJ6_numberOfTrailingZeros_0f7a4 58 = .ok (.iload_n 0, 1) := by decide +kernel
theorem dJ6_numberOfTrailingZeros_0f7a4_59 : decode cJ6_numberOfTrailingZeros_0f7a4 59 = .ok (.iconst 4, 1) := by decide +kernel
theorem dJ6_numberOfTrailingZeros_0f7a4_60 : decode cJ6_numberOfTrailingZeros_0f7a4 60 = .ok (.iushr, 1) := by decide +kernel
theorem dJ6_numberOfTrailingZeros_0f7a4_61 : decode cJ6_numberOfTrailingZeros_0f7a4 61 = .ok (.istore_n 0, 1) := by decide +kernel
theorem dJ6_numberOfTrailingZeros_0f7a4_62 : decode cJ6_numberOfTrailingZeros_0f7a4 62 = .ok (.iload_n 0, 1) := by decide +kernel
theorem dJ6_numberOfTrailingZeros_0f7a4_63 : decode cJ6_numberOfTrailingZeros_0f7a4 63 = .ok (.iconst 4, 1) := by decide +kernel
theorem dJ6_numberOfTrailingZeros_0f7a4_64 : decode cJ6_numberOfTrailingZeros_0f7a4 64 = .ok (.if_icmp .le 10, 3) := by decide +kernel
theorem dJ6_numberOfTrailingZeros_0f7a4_67 : decode cJ6_numberOfTrailingZeros_0f7a4 67 = .ok (.iinc 1 2, 3) := by decide +kernel
theorem dJ6_numberOfTrailingZeros_0f7a4_70 : decode cJ6_numberOfTrailingZeros_0f7a4 70 = .ok (.iload_n 0, 1) := by decide +kernel
theorem dJ6_numberOfTrailingZeros_0f7a4_71 : decode cJ6_numberOfTrailingZeros_0f7a4 71 = .ok (.iconst 2, 1) := by decide +kernel
theorem dJ6_numberOfTrailingZeros_0f7a4_72 : decode cJ6_numberOfTrailingZeros_0f7a4 72 = .ok (.iushr, 1) := by decide +kernel
theorem dJ6_numberOfTrailingZeros_0f7a4_73 : decode cJ6_numberOfTrailingZeros_0f7a4 73 = .ok (.istore_n 0, 1) := by decide +kernel
theorem dJ6_numberOfTrailingZeros_0f7a4_74 : decode cJ6_numberOfTrailingZeros_0f7a4 74 = .ok (.iload_n 1, 1) := by decide +kernel
theorem dJ6_numberOfTrailingZeros_0f7a4_75 : decode cJ6_numberOfTrailingZeros_0f7a4 75 = .ok (.iload_n 0, 1) := by decide +kernel
theorem dJ6_numberOfTrailingZeros_0f7a4_76 : decode cJ6_numberOfTrailingZeros_0f7a4 76 = .ok (.iconst 1, 1) := by decide +kernel
theorem dJ6_numberOfTrailingZeros_0f7a4_77 : decode cJ6_numberOfTrailingZeros_0f7a4 77 = .ok (.iushr, 1) := by decide +kernel
theorem dJ6_numberOfTrailingZeros_0f7a4_78 : decode cJ6_numberOfTrailingZeros_0f7a4 78 = .ok (.iadd, 1) := by decide +kernel
theorem dJ6_numberOfTrailingZeros_0f7a4_79 : decode cJ6_numberOfTrailingZeros_0f7a4 79 = .ok (.ireturn, 1) := by decide +kernel
theorem dJ6_bitCount_0f7a4_0 : decode cJ6_bitCount_0f7a4 0 = .ok (.iload_n 0, 1) := by decide +kernel
theorem dJ6_bitCount_0f7a4_1 : decode cJ6_bitCount_0f7a4 1 = .ok (.iload_n 0, 1) := by decide +kernel
theorem dJ6_bitCount_0f7a4_2 : decode cJ6_bitCount_0f7a4 2 = .ok (.iconst 1, 1) := by decide +kernel
theorem dJ6_bitCount_0f7a4_3 : decode cJ6_bitCount_0f7a4 3 = .ok (.iushr, 1) := by decide +kernel
theorem dJ6_bitCount_0f7a4_4 : decode cJ6_bitCount_0f7a4 4 = .ok (.ldc_w 265, 3) := by decide +kernel
theorem dJ6_bitCount_0f7a4_7 : decode cJ6_bitCount_0f7a4 7 = .ok (.iand, 1) := by decide +kernel
theorem dJ6_bitCount_0f7a4_8 : decode cJ6_bitCount_0f7a4 8 = .ok (.isub, 1) := by decide +kernel
theorem dJ6_bitCount_0f7a4_9 : decode cJ6_bitCount_0f7a4 9 = .ok (.istore_n 0, 1) := by decide +kernel
theorem dJ6_bitCount_0f7a4_10 : decode cJ6_bitCount_0f7a4 10 = .ok (.iload_n 0, 1) := by decide +kernel
theorem dJ6_bitCount_0f7a4_11 : decode cJ6_bitCount_0f7a4 11 = .ok (.ldc_w 266, 3) := by decide +kernel
theorem dJ6_bitCount_0f7a4_14 : decode cJ6_bitCount_0f7a4 14 = .ok (.iand, 1) := by decide +kernel
theorem dJ6_bitCount_0f7a4_15 : decode cJ6_bitCount_0f7a4 15 = .ok (.iload_n 0, 1) := by decide +kernel
theorem dJ6_bitCount_0f7a4_16 : decode cJ6_bitCount_0f7a4 16 = .ok (.iconst 2, 1) := by decide +kernel
theorem dJ6_bitCount_0f7a4_17 : decode cJ6_bitCount_0f7a4 17 = .ok (.iushr, 1) := by decide +kernel
theorem dJ6_bitCount_0f7a4_18 : decode cJ6_bitCount_0f7a4 18 = .ok (.ldc_w 266, 3) := by decide +kernel
theorem dJ6_bitCount_0f7a4_21 : decode cJ6_bitCount_0f7a4 21 = .ok (.iand, 1) := by decide +kernel
theorem dJ6_bitCount_0f7a4_22 : decode cJ6_bitCount_0f7a4 22 = .ok (.iadd, 1) := by decide +kernel
theorem dJ6_bitCount_0f7a4_23 : decode cJ6_bitCount_0f7a4 23 = .ok (.istore_n 0, 1) := by decide +kernel
theorem dJ6_bitCount_0f7a4_24 : decode cJ6_bitCount_0f7a4 24 = .ok (.iload_n 0, 1) := by decide +kernel
theorem dJ6_bitCount_0f7a4_25 : decode cJ6_bitCount_0f7a4 25 = .ok (.iload_n 0, 1) := by decide +kernel
theorem dJ6_bitCount_0f7a4_26 : decode cJ6_bitCount_0f7a4 26 = .ok (.iconst 4, 1) := by decide +kernel
theorem dJ6_bitCount_0f7a4_27 : decode cJ6_bitCount_0f7a4 27 = .ok (.iushr, 1) := by decide +kernel
theorem dJ6_bitCount_0f7a4_28 : decode cJ6_bitCount_0f7a4 28 = .ok (.iadd, 1) := by decide +kernel
theorem dJ6_bitCount_0f7a4_29 : decode cJ6_bitCount_0f7a4 29 = .ok (.ldc_w 267, 3) := by decide +kernel
theorem dJ6_bitCount_0f7a4_32 : decode cJ6_bitCount_0f7a4 32 = .ok (.iand, 1) := by decide +kernel
theorem dJ6_bitCount_0f7a4_33 : decode cJ6_bitCount_0f7a4 33 = .ok (.istore_n 0, 1) := by decide +kernel
theorem dJ6_bitCount_0f7a4_34 : decode cJ6_bitCount_0f7a4 34 = .ok (.iload_n 0, 1) := by decide +kernel
theorem dJ6_bitCount_0f7a4_35 : decode cJ6_bitCount_0f7a4 35 = .ok (.iload_n 0, 1) := by decide +kernel
theorem dJ6_bitCount_0f7a4_36 : decode cJ6_bitCount_0f7a4 36 = .ok (.bipush 8, 2) := by decide +kernel
theorem dJ6_bitCount_0f7a4_38 : decode cJ6_bitCount_0f7a4 38 = .ok (.iushr, 1) := by decide +kernel
theorem dJ6_bitCount_0f7a4_39 : decode cJ6_bitCount_0f7a4 39 = .ok (.iadd, 1) := by decide +kernel
theorem dJ6_bitCount_0f7a4_40 : decode cJ6_bitCount_0f7a4 40 = .ok (.istore_n 0, 1) := by decide +kernel
theorem dJ6_bitCount_0f7a4_41 : decode cJ6_bitCount_0f7a4 41 = .ok (.iload_n 0, 1) := by decide +kernel
theorem dJ6_bitCount_0f7a4_42 : decode cJ6_bitCount_0f7a4 42 = .ok (.iload_n 0, 1) := by decide +kernel
theorem dJ6_bitCount_0f7a4_43 : decode cJ6_bitCount_0f7a4 43 = .ok (.bipush 16, 2) := by decide +kernel
theorem dJ6_bitCount_0f7a4_45 : decode cJ6_bitCount_0f7a4 45 = .ok (.iushr, 1) := by decide +kernel
theorem dJ6_bitCount_0f7a4_46 : decode cJ6_bitCount_0f7a4 46 = .ok (.iadd, 1) := by decide +kernel
theorem dJ6_bitCount_0f7a4_47 : decode cJ6_bitCount_0f7a4 47 = .ok (.istore_n 0, 1) := by decide +kernel
theorem dJ6_bitCount_0f7a4_48 : decode cJ6_bitCount_0f7a4 48 = .ok (.iload_n 0, 1) := by decide +kernel
theorem dJ6_bitCount_0f7a4_49 : decode cJ6_bitCount_0f7a4 49 = .ok (.bipush 63, 2) := by decide +kernel
theorem dJ6_bitCount_0f7a4_51 : decode cJ6_bitCount_0f7a4 51 = .ok (.iand, 1) := by decide +kernel
theorem dJ6_bitCount_0f7a4_52 : decode cJ6_bitCount_0f7a4 52 = .ok (.ireturn, 1) := by decide +kernel
