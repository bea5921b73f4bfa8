theorem dX0_init_0 : decode cX0_init 0 = .ok (.aload_n 0, 1) := by decide +kernel
theorem dX0_init_1 : decode cX0_init 1 = .ok (.invokespecial 3, 3) := by decide +kernel
theorem dX0_init_4 : decode cX0_init 4 = .ok (.aload_n 0, 1) := by decide +kernel
theorem dX0_init_5 : decode cX0_init 5 = .ok (.iload_n 1, 1) := by decide +kernel
theorem dX0_init_6 : decode cX0_init 6 = .ok (.putfield 9, 3) := by decide +kernel
theorem dX0_init_9 : decode cX0_init 9 = .ok (.aload_n 0, 1) := by decide +kernel
theorem dX0_init_10 : decode cX0_init 10 = .ok (.iload_n 2, 1) := by decide +kernel
theorem dX0_init_11 : decode cX0_init 11 = .ok (.putfield 15, 3) := by decide +kernel
theorem dX0_init_14 : decode cX0_init 14 = .ok (.aload_n 0, 1) := by decide +kernel
theorem dX0_init_15 : decode cX0_init 15 = .ok (.iload_n 3, 1) := by decide +kernel
theorem dX0_init_16 : decode cX0_init 16 = .ok (.putfield 18, 3) := by decide +kernel
theorem dX0_init_19 : decode cX0_init 19 = .ok (.aload_n 0, 1) := by decide +kernel
theorem dX0_init_20 : decode cX0_init 20 = .ok (.iload 4, 2) := by decide +kernel
theorem dX0_init_22 : decode cX0_init 22 = .ok (.putfield 21, 3) := by decide +kernel
theorem dX0_init_25 : decode cX0_init 25 = .ok (.aload_n 0, 1) := by decide +kernel
theorem dX0_init_26 : decode cX0_init 26 = .ok (.iload 5, 2) := by decide +kernel
theorem dX0_init_28 : decode cX0_init 28 = .ok (.putfield 24, 3) := by decide +kernel
theorem dX0_init_31 : decode cX0_init 31 = .ok (.return_, 1) := by decide +kernel
theorem dX0_isAsTold_0 : decode cX0_isAsTold 0 = .ok (.iload_n 0, 1) := by decide +kernel
theorem dX0_isAsTold_1 : decode cX0_isAsTold 1 = .ok (.bipush 16, 2) := by decide +kernel
theorem dX0_isAsTold_3 : decode cX0_isAsTold 3 = .ok (.invokestatic 27, 3) := by decide +kernel
theorem dX0_isAsTold_6 : decode cX0_isAsTold 6 = .ok (.ifCond .eq 15, 3) := by decide +kernel
theorem dX0_isAsTold_9 : decode cX0_isAsTold 9 = .ok (.iload_n 0, 1) := by decide +kernel
theorem dX0_isAsTold_10 : decode cX0_isAsTold 10 = .ok (.bipush 15, 2) := by decide +kernel
theorem dX0_isAsTold_12 : decode cX0_isAsTold 12 = .ok (.if_icmp .ne 11, 3) := by decide +kernel
theorem dX0_isAsTold_15 : decode cX0_isAsTold 15 = .ok (.iload_n 2, 1) := by decide +kernel
theorem dX0_isAsTold_16 : decode cX0_isAsTold 16 = .ok (.bipush 8, 2) := by decide +kernel
theorem dX0_isAsTold_18 : decode cX0_isAsTold 18 = .ok (.if_icmp .ge 5, 3) := by decide +kernel
theorem dX0_isAsTold_21 : decode cX0_isAsTold 21 = .ok (.iconst 0, 1) := by decide +kernel
theorem dX0_isAsTold_22 : decode cX0_isAsTold 22 = .ok (.ireturn, 1) := by decide +kernel
theorem dX0_isAsTold_23 : decode cX0_isAsTold 23 = .ok (.iload_n 1, 1) := by decide +kernel
theorem dX0_isAsTold_24 : decode cX0_isAsTold 24 = .ok (.getstatic 31, 3) := by decide +kernel
theorem dX0_isAsTold_27 : decode cX0_isAsTold 27 = .ok (.iload_n 0, 1) := by decide +kernel
theorem dX0_isAsTold_28 : decode cX0_isAsTold 28 = .ok (.iaload, 1) := by decide +kernel
theorem dX0_isAsTold_29 : decode cX0_isAsTold 29 = .ok (.invokestatic 35, 3) := by decide +kernel
theorem dX0_isAsTold_32 : decode cX0_isAsTold 32 = .ok (.ifCond .eq 44, 3) := by decide +kernel
theorem dX0_isAsTold_35 : decode cX0_isAsTold 35 = .ok (.iload_n 2, 1) := by decide +kernel
theorem dX0_isAsTold_36 : decode cX0_isAsTold 36 = .ok (.getstatic 38, 3) := by decide +kernel
theorem dX0_isAsTold_39 : decode cX0_isAsTold 39 = .ok (.iload_n 0, 1) := by decide +kernel
theorem dX0_isAsTold_40 : decode cX0_isAsTold 40 = .ok (.iaload, 1) := by decide +kernel
theorem dX0_isAsTold_41 : decode cX0_isAsTold 41 = .ok (.invokestatic 35, 3) := by decide +kernel
theorem dX0_isAsTold_44 : decode cX0_isAsTold 44 = .ok (.ifCond .eq 32, 3) := by decide +kernel
theorem dX0_isAsTold_47 : decode cX0_isAsTold 47 = .ok (.iload_n 3, 1) := by decide +kernel
theorem dX0_isAsTold_48 : decode cX0_isAsTold 48 = .ok (.getstatic 41, 3) := by decide +kernel
theorem dX0_isAsTold_51 : decode cX0_isAsTold 51 = .ok (.iload_n 0, 1) := by decide +kernel
theorem dX0_isAsTold_52 : decode cX0_isAsTold 52 = .ok (.iaload, 1) := by decide +kernel
theorem dX0_isAsTold_53 : decode cX0_isAsTold 53 = .ok (.invokestatic 35, 3) := by decide +kernel
theorem dX0_isAsTold_56 : decode cX0_isAsTold 56 = .ok (.ifCond .eq 20, 3) := by decide +kernel
theorem dX0_isAsTold_59 : decode cX0_isAsTold 59 = .ok (.iload 4, 2) := by decide +kernel
theorem dX0_isAsTold_61 : decode cX0_isAsTold 61 = .ok (.getstatic 44, 3) := by decide +kernel
theorem dX0_isAsTold_64 : decode cX0_isAsTold 64 = .ok (.iload_n 0, 1) := by decide +kernel
theorem dX0_isAsTold_65 : decode cX0_isAsTold 65 = .ok (.iaload, 1) := by decide +kernel
theorem dX0_isAsTold_66 : decode cX0_isAsTold 66 = .ok (.invokestatic 35, 3) := by decide +kernel
theorem dX0_isAsTold_69 : decode cX0_isAsTold 69 = .ok (.ifCond .eq 7, 3) := by decide +kernel
theorem dX0_isAsTold_72 : decode cX0_isAsTold 72 = .ok (.iconst 1, 1) := by decide +kernel
theorem dX0_isAsTold_73 : decode cX0_isAsTold 73 = .ok (.goto 4, 3) := by decide +kernel
theorem dX0_isAsTold_76 : decode cX0_isAsTold 76 = .ok (.iconst 0, 1) := by decide +kernel
theorem dX0_isAsTold_77 : decode cX0_isAsTold 77 = .ok (.ireturn, 1) := by decide +kernel
theorem dX0_fits_0 : decode cX0_fits 0 = .ok (.iload_n 1, 1) := by decide +kernel
theorem dX0_fits_1 : decode cX0_fits 1 = .ok (.ifCond .eq 11, 3) := by decide +kernel
theorem dX0_fits_4 : decode cX0_fits 4 = .ok (.iload_n 0, 1) := by decide +kernel
theorem dX0_fits_5 : decode cX0_fits 5 = .ok (.iload_n 1, 1) := by decide +kernel
theorem dX0_fits_6 : decode cX0_fits 6 = .ok (.invokestatic 27, 3) := by decide +kernel
theorem dX0_fits_9 : decode cX0_fits 9 = .ok (.ifCond .eq 7, 3) := by decide +kernel
theorem dX0_fits_12 : decode cX0_fits 12 = .ok (.iconst 1, 1) := by decide +kernel
theorem dX0_fits_13 : decode cX0_fits 13 = .ok (.goto 4, 3) := by decide +kernel
theorem dX0_fits_16 : decode cX0_fits 16 = .ok (.iconst 0, 1) := by decide +kernel
theorem dX0_fits_17 : decode cX0_fits 17 = .ok (.ireturn, 1) := by decide +kernel
theorem dX0_kind_0 : decode cX0_kind 0 = .ok (.aload_n 0, 1) := by decide +kernel
theorem dX0_kind_1 : decode cX0_kind 1 = .ok (.getfield 9, 3) := by decide +kernel
theorem dX0_kind_4 : decode cX0_kind 4 = .ok (.ireturn, 1) := by decide +kernel
theorem dX0_a_0 : decode cX0_a 0 = .ok (.aload_n 0, 1) := by decide +kernel
theorem dX0_a_1 : decode cX0_a 1 = .ok (.getfield 15, 3) := by decide +kernel
theorem dX0_a_4 : decode cX0_a 4 = .ok (.ireturn, 1) := by decide +kernel
theorem dX0_b_0 : decode cX0_b 0 = .ok (.aload_n 0, 1) := by decide +kernel
theorem dX0_b_1 : decode cX0_b 1 = .ok (.getfield 18, 3) := by decide +kernel
theorem dX0_b_4 : decode cX0_b 4 = .ok (.ireturn, 1) := by decide +kernel
theorem dX0_c_0 : decode cX0_c 0 = .ok (.aload_n 0, 1) := by decide +kernel
theorem dX0_c_1 : decode cX0_c 1 = .ok (.getfield 21, 3) := by decide +kernel
theorem dX0_c_4 : decode cX0_c 4 = .ok (.ireturn, 1) := by decide +kernel
theorem dX0_d_0 : decode cX0_d 0 = .ok (.aload_n 0, 1) := by decide +kernel
theorem dX0_d_1 : decode cX0_d 1 = .ok (.getfield 24, 3) := by decide +kernel
theorem dX0_d_4 : decode cX0_d 4 = .ok (.ireturn, 1) := by decide +kernel
theorem dX1_init_0 : decode cX1_init 0 = .ok (.aload_n 0, 1) := by decide +kernel
theorem dX1_init_1 : decode cX1_init 1 = .ok (.invokespecial 1, 3) := by decide +kernel
theorem dX1_init_4 : decode cX1_init 4 = .ok (.aload_n 0, 1) := by decide +kernel
theorem dX1_init_5 : decode cX1_init 5 = .ok (.iload_n 1, 1) := by decide +kernel
theorem dX1_init_6 : decode cX1_init 6 = .ok (.putfield 7, 3) := by decide +kernel
theorem dX1_init_9 : decode cX1_init 9 = .ok (.aload_n 0, 1) := by decide +kernel
theorem dX1_init_10 : decode cX1_init 10 = .ok (.iload_n 2, 1) := by decide +kernel
theorem dX1_init_11 : decode cX1_init 11 = .ok (.putfield 13, 3) := by decide +kernel
theorem dX1_init_14 : decode cX1_init 14 = .ok (.aload_n 0, 1) := by decide +kernel
theorem dX1_init_15 : decode cX1_init 15 = .ok (.iload_n 3, 1) := by decide +kernel
theorem dX1_init_16 : decode cX1_init 16 = .ok (.putfield 16, 3) := by decide +kernel
theorem dX1_init_19 : decode cX1_init 19 = .ok (.return_, 1) := by decide +kernel
theorem dX1_holds_0 : decode cX1_holds 0 = .ok (.aload_n 0, 1) := by decide +kernel
theorem dX1_holds_1 : decode cX1_holds 1 = .ok (.getfield 7, 3) := by decide +kernel
theorem dX1_holds_4 : decode cX1_holds 4 = .ok (.iload_n 1, 1) := by decide +kernel
theorem dX1_holds_5 : decode cX1_holds 5 = .ok (.if_icmp .gt 15, 3) := by decide +kernel
theorem dX1_holds_8 : decode cX1_holds 8 = .ok (.iload_n 1, 1) := by decide +kernel
theorem dX1_holds_9 : decode cX1_holds 9 = .ok (.aload_n 0, 1) := by decide +kernel
theorem dX1_holds_10 : decode cX1_holds 10 = .ok (.getfield 13, 3) := by decide +kernel
theorem dX1_holds_13 : decode cX1_holds 13 = .ok (.if_icmp .ge 7, 3) := by decide +kernel
theorem dX1_holds_16 : decode cX1_holds 16 = .ok (.iconst 1, 1) := by decide +kernel
theorem dX1_holds_17 : decode cX1_holds 17 = .ok (.goto 4, 3) := by decide +kernel
theorem dX1_holds_20 : decode cX1_holds 20 = .ok (.iconst 0, 1) := by decide +kernel
theorem dX1_holds_21 : decode cX1_holds 21 = .ok (.ireturn, 1) := by decide +kernel
theorem dX1_by_0 : decode cX1_by 0 = .ok (.aload_n 0, 1) := by decide +kernel
theorem dX1_by_1 : decode cX1_by 1 = .ok (.getfield 16, 3) := by decide +kernel
theorem dX1_by_4 : decode cX1_by 4 = .ok (.ireturn, 1) := by decide +kernel
theorem dX2_init_0 : decode cX2_init 0 = .ok (.aload_n 0, 1) := by decide +kernel
theorem dX2_init_1 : decode cX2_init 1 = .ok (.invokespecial 3, 3) := by decide +kernel
theorem dX2_init_4 : decode cX2_init 4 = .ok (.aload_n 0, 1) := by decide +kernel
theorem dX2_init_5 : decode cX2_init 5 = .ok (.bipush 6, 2) := by decide +kernel
theorem dX2_init_7 : decode cX2_init 7 = .ok (.newarray .int, 2) := by decide +kernel
theorem dX2_init_9 : decode cX2_init 9 = .ok (.putfield 9, 3) := by decide +kernel
theorem dX2_init_12 : decode cX2_init 12 = .ok (.aload_n 0, 1) := by decide +kernel
theorem dX2_init_13 : decode cX2_init 13 = .ok (.iconst 3, 1) := by decide +kernel
theorem dX2_init_14 : decode cX2_init 14 = .ok (.newarray .int, 2) := by decide +kernel
theorem dX2_init_16 : decode cX2_init 16 = .ok (.putfield 15, 3) := by decide +kernel
theorem dX2_init_19 : decode cX2_init 19 = .ok (.return_, 1) := by decide +kernel
theorem dX2_begin_0 : decode cX2_begin 0 = .ok (.aload_n 0, 1) := by decide +kernel
theorem dX2_begin_1 : decode cX2_begin 1 = .ok (.getfield 9, 3) := by decide +kernel
theorem dX2_begin_4 : decode cX2_begin 4 = .ok (.iconst 0, 1) := by decide +kernel
theorem dX2_begin_5 : decode cX2_begin 5 = .ok (.invokestatic 18, 3) := by decide +kernel
theorem dX2_begin_8 : decode cX2_begin 8 = .ok (.aload_n 0, 1) := by decide +kernel
theorem dX2_begin_9 : decode cX2_begin 9 = .ok (.getfield 15, 3) := by decide +kernel
theorem dX2_begin_12 : decode cX2_begin 12 = .ok (.bipush (-3), 2) := by decide +kernel
theorem dX2_begin_14 : decode cX2_begin 14 = .ok (.invokestatic 18, 3) := by decide +kernel
theorem dX2_begin_17 : decode cX2_begin 17 = .ok (.aload_n 0, 1) := by decide +kernel
theorem dX2_begin_18 : decode cX2_begin 18 = .ok (.getfield 9, 3) := by decide +kernel
theorem dX2_begin_21 : decode cX2_begin 21 = .ok (.iconst 0, 1) := by decide +kernel
theorem dX2_begin_22 : decode cX2_begin 22 = .ok (.iload_n 2, 1) := by decide +kernel
theorem dX2_begin_23 : decode cX2_begin 23 = .ok (.iastore, 1) := by decide +kernel
theorem dX2_begin_24 : decode cX2_begin 24 = .ok (.aload_n 0, 1) := by decide +kernel
theorem dX2_begin_25 : decode cX2_begin 25 = .ok (.getfield 15, 3) := by decide +kernel
theorem dX2_begin_28 : decode cX2_begin 28 = .ok (.iconst 0, 1) := by decide +kernel
theorem dX2_begin_29 : decode cX2_begin 29 = .ok (.iload_n 3, 1) := by decide +kernel
theorem dX2_begin_30 : decode cX2_begin 30 = .ok (.iastore, 1) := by decide +kernel
theorem dX2_begin_31 : decode cX2_begin 31 = .ok (.aload_n 0, 1) := by decide +kernel
theorem dX2_begin_32 : decode cX2_begin 32 = .ok (.iload_n 1, 1) := by decide +kernel
theorem dX2_begin_33 : decode cX2_begin 33 = .ok (.putfield 24, 3) := by decide +kernel
theorem dX2_begin_36 : decode cX2_begin 36 = .ok (.aload_n 0, 1) := by decide +kernel
theorem dX2_begin_37 : decode cX2_begin 37 = .ok (.iconst 0, 1) := by decide +kernel
theorem dX2_begin_38 : decode cX2_begin 38 = .ok (.putfield 28, 3) := by decide +kernel
theorem dX2_begin_41 : decode cX2_begin 41 = .ok (.aload_n 0, 1) := by decide +kernel
theorem dX2_begin_42 : decode cX2_begin 42 = .ok (.iconst 0, 1) := by decide +kernel
theorem dX2_begin_43 : decode cX2_begin 43 = .ok (.putfield 31, 3) := by decide +kernel
theorem dX2_begin_46 : decode cX2_begin 46 = .ok (.aload_n 0, 1) := by decide +kernel
theorem dX2_begin_47 : decode cX2_begin 47 = .ok (.iconst 0, 1) := by decide +kernel
theorem dX2_begin_48 : decode cX2_begin 48 = .ok (.putfield 34, 3) := by decide +kernel
theorem dX2_begin_51 : decode cX2_begin 51 = .ok (.return_, 1) := by decide +kernel
theorem dX3_init_0 : decode cX3_init 0 = .ok (.aload_n 0, 1) := by decide +kernel
theorem dX3_init_1 : decode cX3_init 1 = .ok (.invokespecial 1, 3) := by decide +kernel
theorem dX3_init_4 : decode cX3_init 4 = .ok (.aload_n 0, 1) := by decide +kernel
theorem dX3_init_5 : decode cX3_init 5 = .ok (.iload_n 1, 1) := by decide +kernel
theorem dX3_init_6 : decode cX3_init 6 = .ok (.putfield 7, 3) := by decide +kernel
theorem dX3_init_9 : decode cX3_init 9 = .ok (.aload_n 0, 1) := by decide +kernel
theorem dX3_init_10 : decode cX3_init 10 = .ok (.iload_n 2, 1) := by decide +kernel
theorem dX3_init_11 : decode cX3_init 11 = .ok (.putfield 13, 3) := by decide +kernel
theorem dX3_init_14 : decode cX3_init 14 = .ok (.aload_n 0, 1) := by decide +kernel
theorem dX3_init_15 : decode cX3_init 15 = .ok (.iload_n 3, 1) := by decide +kernel
theorem dX3_init_16 : decode cX3_init 16 = .ok (.putfield 16, 3) := by decide +kernel
theorem dX3_init_19 : decode cX3_init 19 = .ok (.aload_n 0, 1) := by decide +kernel
theorem dX3_init_20 : decode cX3_init 20 = .ok (.iload 4, 2) := by decide +kernel
theorem dX3_init_22 : decode cX3_init 22 = .ok (.putfield 19, 3) := by decide +kernel
theorem dX3_init_25 : decode cX3_init 25 = .ok (.return_, 1) := by decide +kernel
theorem dX3_catches_0 : decode cX3_catches 0 = .ok (.aload_n 0, 1) := by decide +kernel
theorem dX3_catches_1 : decode cX3_catches 1 = .ok (.getfield 7, 3) := by decide +kernel
theorem dX3_catches_4 : decode cX3_catches 4 = .ok (.iload_n 1, 1) := by decide +kernel
theorem dX3_catches_5 : decode cX3_catches 5 = .ok (.if_icmp .gt 30, 3) := by decide +kernel
theorem dX3_catches_8 : decode cX3_catches 8 = .ok (.iload_n 1, 1) := by decide +kernel
theorem dX3_catches_9 : decode cX3_catches 9 = .ok (.aload_n 0, 1) := by decide +kernel
theorem dX3_catches_10 : decode cX3_catches 10 = .ok (.getfield 13, 3) := by decide +kernel
theorem dX3_catches_13 : decode cX3_catches 13 = .ok (.if_icmp .ge 22, 3) := by decide +kernel
theorem dX3_catches_16 : decode cX3_catches 16 = .ok (.aload_n 0, 1) := by decide +kernel
theorem dX3_catches_17 : decode cX3_catches 17 = .ok (.getfield 16, 3) := by decide +kernel
theorem dX3_catches_20 : decode cX3_catches 20 = .ok (.ifCond .eq 11, 3) := by decide +kernel
theorem dX3_catches_23 : decode cX3_catches 23 = .ok (.aload_n 0, 1) := by decide +kernel
theorem dX3_catches_24 : decode cX3_catches 24 = .ok (.getfield 16, 3) := by decide +kernel
theorem dX3_catches_27 : decode cX3_catches 27 = .ok (.iload_n 2, 1) := by decide +kernel
theorem dX3_catches_28 : decode cX3_catches 28 = .ok (.if_icmp .ne 7, 3) := by decide +kernel
theorem dX3_catches_31 : decode cX3_catches 31 = .ok (.iconst 1, 1) := by decide +kernel
theorem dX3_catches_32 : decode cX3_catches 32 = .ok (.goto 4, 3) := by decide +kernel
theorem dX3_catches_35 : decode cX3_catches 35 = .ok (.iconst 0, 1) := by decide +kernel
theorem dX3_catches_36 : decode cX3_catches 36 = .ok (.ireturn, 1) := by decide +kernel
theorem dX3_at_0 : decode cX3_at 0 = .ok (.aload_n 0, 1) := by decide +kernel
theorem dX3_at_1 : decode cX3_at 1 = .ok (.getfield 19, 3) := by decide +kernel
theorem dX3_at_4 : decode cX3_at 4 = .ok (.ireturn, 1) := by decide +kernel
theorem dX4_init_0 : decode cX4_init 0 = .ok (.aload_n 0, 1) := by decide +kernel
theorem dX4_init_1 : decode cX4_init 1 = .ok (.invokespecial 3, 3) := by decide +kernel
theorem dX4_init_4 : decode cX4_init 4 = .ok (.aload_n 0, 1) := by decide +kernel
theorem dX4_init_5 : decode cX4_init 5 = .ok (.new 9, 3) := by decide +kernel
theorem dX4_init_8 : decode cX4_init 8 = .ok (.dup, 1) := by decide +kernel
theorem dX4_init_9 : decode cX4_init 9 = .ok (.invokespecial 11, 3) := by decide +kernel
theorem dX4_init_12 : decode cX4_init 12 = .ok (.putfield 12, 3) := by decide +kernel
theorem dX4_init_15 : decode cX4_init 15 = .ok (.aload_n 0, 1) := by decide +kernel
theorem dX4_init_16 : decode cX4_init 16 = .ok (.new 18, 3) := by decide +kernel
theorem dX4_init_19 : decode cX4_init 19 = .ok (.dup, 1) := by decide +kernel
theorem dX4_init_20 : decode cX4_init 20 = .ok (.invokespecial 20, 3) := by decide +kernel
theorem dX4_init_23 : decode cX4_init 23 = .ok (.putfield 21, 3) := by decide +kernel
theorem dX4_init_26 : decode cX4_init 26 = .ok (.aload_n 0, 1) := by decide +kernel
theorem dX4_init_27 : decode cX4_init 27 = .ok (.bipush 8, 2) := by decide +kernel
theorem dX4_init_29 : decode cX4_init 29 = .ok (.anewarray 25, 3) := by decide +kernel
theorem dX4_init_32 : decode cX4_init 32 = .ok (.putfield 27, 3) := by decide +kernel
theorem dX4_init_35 : decode cX4_init 35 = .ok (.aload_n 0, 1) := by decide +kernel
theorem dX4_init_36 : decode cX4_init 36 = .ok (.new 31, 3) := by decide +kernel
theorem dX4_init_39 : decode cX4_init 39 = .ok (.dup, 1) := by decide +kernel
theorem dX4_init_40 : decode cX4_init 40 = .ok (.invokespecial 33, 3) := by decide +kernel
theorem dX4_init_43 : decode cX4_init 43 = .ok (.putfield 34, 3) := by decide +kernel
theorem dX4_init_46 : decode cX4_init 46 = .ok (.aload_n 0, 1) := by decide +kernel
theorem dX4_init_47 : decode cX4_init 47 = .ok (.bipush 12, 2) := by decide +kernel
theorem dX4_init_49 : decode cX4_init 49 = .ok (.anewarray 38, 3) := by decide +kernel
theorem dX4_init_52 : decode cX4_init 52 = .ok (.putfield 40, 3) := by decide +kernel
theorem dX4_init_55 : decode cX4_init 55 = .ok (.iconst 0, 1) := by decide +kernel
theorem dX4_init_56 : decode cX4_init 56 = .ok (.istore_n 1, 1) := by decide +kernel
theorem dX4_init_57 : decode cX4_init 57 = .ok (.iload_n 1, 1) := by decide +kernel
theorem dX4_init_58 : decode cX4_init 58 = .ok (.bipush 8, 2) := by decide +kernel
theorem dX4_init_60 : decode cX4_init 60 = .ok (.if_icmp .ge 22, 3) := by decide +kernel
theorem dX4_init_63 : decode cX4_init 63 = .ok (.aload_n 0, 1) := by decide +kernel
theorem dX4_init_64 : decode cX4_init 64 = .ok (.getfield 27, 3) := by decide +kernel
theorem dX4_init_67 : decode cX4_init 67 = .ok (.iload_n 1, 1) := by decide +kernel
theorem dX4_init_68 : decode cX4_init 68 = .ok (.new 25, 3) := by decide +kernel
theorem dX4_init_71 : decode cX4_init 71 = .ok (.dup, 1) := by decide +kernel
theorem dX4_init_72 : decode cX4_init 72 = .ok (.invokespecial 44, 3) := by decide +kernel
theorem dX4_init_75 : decode cX4_init 75 = .ok (.aastore, 1) := by decide +kernel
theorem dX4_init_76 : decode cX4_init 76 = .ok (.iinc 1 1, 3) := by decide +kernel
theorem dX4_init_79 : decode cX4_init 79 = .ok (.goto (-22), 3) := by decide +kernel
theorem dX4_init_82 : decode cX4_init 82 = .ok (.iconst 0, 1) := by decide +kernel
theorem dX4_init_83 : decode cX4_init 83 = .ok (.istore_n 1, 1) := by decide +kernel
theorem dX4_init_84 : decode cX4_init 84 = .ok (.iload_n 1, 1) := by decide +kernel
theorem dX4_init_85 : decode cX4_init 85 = .ok (.bipush 12, 2) := by decide +kernel
theorem dX4_init_87 : decode cX4_init 87 = .ok (.if_icmp .ge 22, 3) := by decide +kernel
theorem dX4_init_90 : decode cX4_init 90 = .ok (.aload_n 0, 1) := by decide +kernel
theorem dX4_init_91 : decode cX4_init 91 = .ok (.getfield 40, 3) := by decide +kernel
theorem dX4_init_94 : decode cX4_init 94 = .ok (.iload_n 1, 1) := by decide +kernel
theorem dX4_init_95 : decode cX4_init 95 = .ok (.new 38, 3) := by decide +kernel
theorem dX4_init_98 : decode cX4_init 98 = .ok (.dup, 1) := by decide +kernel
theorem dX4_init_99 : decode cX4_init 99 = .ok (.invokespecial 45, 3) := by decide +kernel
theorem dX4_init_102 : decode cX4_init 102 = .ok (.aastore, 1) := by decide +kernel
theorem dX4_init_103 : decode cX4_init 103 = .ok (.iinc 1 1, 3) := by decide +kernel
theorem dX4_init_106 : decode cX4_init 106 = .ok (.goto (-22), 3) := by decide +kernel
theorem dX4_init_109 : decode cX4_init 109 = .ok (.return_, 1) := by decide +kernel
theorem dX4_start_0 : decode cX4_start 0 = .ok (.aload_n 0, 1) := by decide +kernel
theorem dX4_start_1 : decode cX4_start 1 = .ok (.getfield 12, 3) := by decide +kernel
theorem dX4_start_4 : decode cX4_start 4 = .ok (.invokevirtual 46, 3) := by decide +kernel
theorem dX4_start_7 : decode cX4_start 7 = .ok (.aload_n 0, 1) := by decide +kernel
theorem dX4_start_8 : decode cX4_start 8 = .ok (.getfield 34, 3) := by decide +kernel
theorem dX4_start_11 : decode cX4_start 11 = .ok (.invokevirtual 49, 3) := by decide +kernel
theorem dX4_start_14 : decode cX4_start 14 = .ok (.aload_n 0, 1) := by decide +kernel
theorem dX4_start_15 : decode cX4_start 15 = .ok (.getfield 21, 3) := by decide +kernel
theorem dX4_start_18 : decode cX4_start 18 = .ok (.iload_n 3, 1) := by decide +kernel
theorem dX4_start_19 : decode cX4_start 19 = .ok (.iload 4, 2) := by decide +kernel
theorem dX4_start_21 : decode cX4_start 21 = .ok (.invokevirtual 52, 3) := by decide +kernel
theorem dX4_start_24 : decode cX4_start 24 = .ok (.aload_n 0, 1) := by decide +kernel
theorem dX4_start_25 : decode cX4_start 25 = .ok (.iload_n 1, 1) := by decide +kernel
theorem dX4_start_26 : decode cX4_start 26 = .ok (.iload_n 2, 1) := by decide +kernel
theorem dX4_start_27 : decode cX4_start 27 = .ok (.bipush (-3), 2) := by decide +kernel
theorem dX4_start_29 : decode cX4_start 29 = .ok (.iconst 1, 1) := by decide +kernel
theorem dX4_start_30 : decode cX4_start 30 = .ok (.invokevirtual 55, 3) := by decide +kernel
theorem dX4_start_33 : decode cX4_start 33 = .ok (.astore 5, 2) := by decide +kernel
theorem dX4_start_35 : decode cX4_start 35 = .ok (.aload 5, 2) := by decide +kernel
theorem dX4_start_37 : decode cX4_start 37 = .ok (.getstatic 59, 3) := by decide +kernel
theorem dX4_start_40 : decode cX4_start 40 = .ok (.if_acmp .ne 16, 3) := by decide +kernel
theorem dX4_start_43 : decode cX4_start 43 = .ok (.aload_n 0, 1) := by decide +kernel
theorem dX4_start_44 : decode cX4_start 44 = .ok (.getfield 12, 3) := by decide +kernel
theorem dX4_start_47 : decode cX4_start 47 = .ok (.aload_n 0, 1) := by decide +kernel
theorem dX4_start_48 : decode cX4_start 48 = .ok (.getfield 65, 3) := by decide +kernel
theorem dX4_start_51 : decode cX4_start 51 = .ok (.putfield 69, 3) := by decide +kernel
theorem dX4_start_54 : decode cX4_start 54 = .ok (.iconst 0, 1) := by decide +kernel
theorem dX4_start_55 : decode cX4_start 55 = .ok (.ireturn, 1) := by decide +kernel
theorem dX4_start_56 : decode cX4_start 56 = .ok (.aload 5, 2) := by decide +kernel
theorem dX4_start_58 : decode cX4_start 58 = .ok (.getstatic 72, 3) := by decide +kernel
theorem dX4_start_61 : decode cX4_start 61 = .ok (.if_acmp .ne 16, 3) := by decide +kernel
theorem dX4_start_64 : decode cX4_start 64 = .ok (.aload_n 0, 1) := by decide +kernel
theorem dX4_start_65 : decode cX4_start 65 = .ok (.getfield 12, 3) := by decide +kernel
theorem dX4_start_68 : decode cX4_start 68 = .ok (.aload_n 0, 1) := by decide +kernel
theorem dX4_start_69 : decode cX4_start 69 = .ok (.getfield 75, 3) := by decide +kernel
theorem dX4_start_72 : decode cX4_start 72 = .ok (.putfield 78, 3) := by decide +kernel
theorem dX4_start_75 : decode cX4_start 75 = .ok (.iconst 2, 1) := by decide +kernel
theorem dX4_start_76 : decode cX4_start 76 = .ok (.ireturn, 1) := by decide +kernel
theorem dX4_start_77 : decode cX4_start 77 = .ok (.iconst 1, 1) := by decide +kernel
theorem dX4_start_78 : decode cX4_start 78 = .ok (.ireturn, 1) := by decide +kernel
theorem dX4_callFrame_0 : decode cX4_callFrame 0 = .ok (.aload_n 0, 1) := by decide +kernel
theorem dX4_callFrame_1 : decode cX4_callFrame 1 = .ok (.iload_n 1, 1) := by decide +kernel
theorem dX4_callFrame_2 : decode cX4_callFrame 2 = .ok (.iload_n 2, 1) := by decide +kernel
theorem dX4_callFrame_3 : decode cX4_callFrame 3 = .ok (.iload_n 3, 1) := by decide +kernel
theorem dX4_callFrame_4 : decode cX4_callFrame 4 = .ok (.iload 4, 2) := by decide +kernel
theorem dX4_callFrame_6 : decode cX4_callFrame 6 = .ok (.invokevirtual 81, 3) := by decide +kernel
theorem dX4_callFrame_9 : decode cX4_callFrame 9 = .ok (.astore 5, 2) := by decide +kernel
theorem dX4_callFrame_11 : decode cX4_callFrame 11 = .ok (.aload 5, 2) := by decide +kernel
theorem dX4_callFrame_13 : decode cX4_callFrame 13 = .ok (.getstatic 84, 3) := by decide +kernel
theorem dX4_callFrame_16 : decode cX4_callFrame 16 = .ok (.if_acmp .ne 12, 3) := by decide +kernel
theorem dX4_callFrame_19 : decode cX4_callFrame 19 = .ok (.aload_n 0, 1) := by decide +kernel
theorem dX4_callFrame_20 : decode cX4_callFrame 20 = .ok (.iload 4, 2) := by decide +kernel
theorem dX4_callFrame_22 : decode cX4_callFrame 22 = .ok (.invokevirtual 87, 3) := by decide +kernel
theorem dX4_callFrame_25 : decode cX4_callFrame 25 = .ok (.goto 5, 3) := by decide +kernel
theorem dX4_callFrame_28 : decode cX4_callFrame 28 = .ok (.aload 5, 2) := by decide +kernel
theorem dX4_callFrame_30 : decode cX4_callFrame 30 = .ok (.areturn, 1) := by decide +kernel
theorem dX4_makeFrame_0 : decode cX4_makeFrame 0 = .ok (.aload_n 0, 1) := by decide +kernel
theorem dX4_makeFrame_1 : decode cX4_makeFrame 1 = .ok (.getfield 21, 3) := by decide +kernel
theorem dX4_makeFrame_4 : decode cX4_makeFrame 4 = .ok (.iconst 1, 1) := by decide +kernel
theorem dX4_makeFrame_5 : decode cX4_makeFrame 5 = .ok (.invokevirtual 91, 3) := by decide +kernel
theorem dX4_makeFrame_8 : decode cX4_makeFrame 8 = .ok (.astore 5, 2) := by decide +kernel
theorem dX4_makeFrame_10 : decode cX4_makeFrame 10 = .ok (.aload 5, 2) := by decide +kernel
theorem dX4_makeFrame_12 : decode cX4_makeFrame 12 = .ok (.getstatic 84, 3) := by decide +kernel
theorem dX4_makeFrame_15 : decode cX4_makeFrame 15 = .ok (.if_acmp .eq 6, 3) := by decide +kernel
theorem dX4_makeFrame_18 : decode cX4_makeFrame 18 = .ok (.aload 5, 2) := by decide +kernel
theorem dX4_makeFrame_20 : decode cX4_makeFrame 20 = .ok (.areturn, 1) := by decide +kernel
theorem dX4_makeFrame_21 : decode cX4_makeFrame 21 = .ok (.iload 4, 2) := by decide +kernel
theorem dX4_makeFrame_23 : decode cX4_makeFrame 23 = .ok (.bipush 12, 2) := by decide +kernel
theorem dX4_makeFrame_25 : decode cX4_makeFrame 25 = .ok (.if_icmp .le 10, 3) := by decide +kernel
theorem dX4_makeFrame_28 : decode cX4_makeFrame 28 = .ok (.aload_n 0, 1) := by decide +kernel
theorem dX4_makeFrame_29 : decode cX4_makeFrame 29 = .ok (.bipush 7, 2) := by decide +kernel
theorem dX4_makeFrame_31 : decode cX4_makeFrame 31 = .ok (.invokevirtual 94, 3) := by decide +kernel
theorem dX4_makeFrame_34 : decode cX4_makeFrame 34 = .ok (.areturn, 1) := by decide +kernel
theorem dX4_makeFrame_35 : decode cX4_makeFrame 35 = .ok (.aload_n 0, 1) := by decide +kernel
theorem dX4_makeFrame_36 : decode cX4_makeFrame 36 = .ok (.getfield 40, 3) := by decide +kernel
theorem dX4_makeFrame_39 : decode cX4_makeFrame 39 = .ok (.iload 4, 2) := by decide +kernel
theorem dX4_makeFrame_41 : decode cX4_makeFrame 41 = .ok (.iconst 1, 1) := by decide +kernel
theorem dX4_makeFrame_42 : decode cX4_makeFrame 42 = .ok (.isub, 1) := by decide +kernel
theorem dX4_makeFrame_43 : decode cX4_makeFrame 43 = .ok (.aaload, 1) := by decide +kernel
theorem dX4_makeFrame_44 : decode cX4_makeFrame 44 = .ok (.iload_n 1, 1) := by decide +kernel
theorem dX4_makeFrame_45 : decode cX4_makeFrame 45 = .ok (.iload_n 2, 1) := by decide +kernel
theorem dX4_makeFrame_46 : decode cX4_makeFrame 46 = .ok (.iload_n 3, 1) := by decide +kernel
theorem dX4_makeFrame_47 : decode cX4_makeFrame 47 = .ok (.invokevirtual 97, 3) := by decide +kernel
theorem dX4_makeFrame_50 : decode cX4_makeFrame 50 = .ok (.aload_n 0, 1) := by decide +kernel
theorem dX4_makeFrame_51 : decode cX4_makeFrame 51 = .ok (.getfield 12, 3) := by decide +kernel
theorem dX4_makeFrame_54 : decode cX4_makeFrame 54 = .ok (.iload 4, 2) := by decide +kernel
theorem dX4_makeFrame_56 : decode cX4_makeFrame 56 = .ok (.invokevirtual 100, 3) := by decide +kernel
theorem dX4_makeFrame_59 : decode cX4_makeFrame 59 = .ok (.getstatic 84, 3) := by decide +kernel
theorem dX4_makeFrame_62 : decode cX4_makeFrame 62 = .ok (.areturn, 1) := by decide +kernel
theorem dX4_performFrame_0 : decode cX4_performFrame 0 = .ok (.aload_n 0, 1) := by decide +kernel
theorem dX4_performFrame_1 : decode cX4_performFrame 1 = .ok (.getfield 40, 3) := by decide +kernel
theorem dX4_performFrame_4 : decode cX4_performFrame 4 = .ok (.iload_n 1, 1) := by decide +kernel
theorem dX4_performFrame_5 : decode cX4_performFrame 5 = .ok (.iconst 1, 1) := by decide +kernel
theorem dX4_performFrame_6 : decode cX4_performFrame 6 = .ok (.isub, 1) := by decide +kernel
theorem dX4_performFrame_7 : decode cX4_performFrame 7 = .ok (.aaload, 1) := by decide +kernel
theorem dX4_performFrame_8 : decode cX4_performFrame 8 = .ok (.astore_n 2, 1) := by decide +kernel
theorem dX4_performFrame_9 : decode cX4_performFrame 9 = .ok (.aload_n 0, 1) := by decide +kernel
theorem dX4_performFrame_10 : decode cX4_performFrame 10 = .ok (.getfield 27, 3) := by decide +kernel
theorem dX4_performFrame_13 : decode cX4_performFrame 13 = .ok (.aload_n 2, 1) := by decide +kernel
theorem dX4_performFrame_14 : decode cX4_performFrame 14 = .ok (.getfield 104, 3) := by decide +kernel
theorem dX4_performFrame_17 : decode cX4_performFrame 17 = .ok (.aaload, 1) := by decide +kernel
theorem dX4_performFrame_18 : decode cX4_performFrame 18 = .ok (.getfield 107, 3) := by decide +kernel
theorem dX4_performFrame_21 : decode cX4_performFrame 21 = .ok (.invokevirtual 111, 3) := by decide +kernel
theorem dX4_performFrame_24 : decode cX4_performFrame 24 = .ok (.istore_n 3, 1) := by decide +kernel
theorem dX4_performFrame_25 : decode cX4_performFrame 25 = .ok (.getstatic 84, 3) := by decide +kernel
theorem dX4_performFrame_28 : decode cX4_performFrame 28 = .ok (.astore 4, 2) := by decide +kernel
theorem dX4_performFrame_30 : decode cX4_performFrame 30 = .ok (.iconst 0, 1) := by decide +kernel
theorem dX4_performFrame_31 : decode cX4_performFrame 31 = .ok (.istore 5, 2) := by decide +kernel
theorem dX4_performFrame_33 : decode cX4_performFrame 33 = .ok (.iload 5, 2) := by decide +kernel
theorem dX4_performFrame_35 : decode cX4_performFrame 35 = .ok (.ldc 117, 2) := by decide +kernel
theorem dX4_performFrame_37 : decode cX4_performFrame 37 = .ok (.if_icmp .ge 33, 3) := by decide +kernel
theorem dX4_performFrame_40 : decode cX4_performFrame 40 = .ok (.aload 4, 2) := by decide +kernel
theorem dX4_performFrame_42 : decode cX4_performFrame 42 = .ok (.getstatic 84, 3) := by decide +kernel
theorem dX4_performFrame_45 : decode cX4_performFrame 45 = .ok (.if_acmp .ne 25, 3) := by decide +kernel
theorem dX4_performFrame_48 : decode cX4_performFrame 48 = .ok (.aload_n 2, 1) := by decide +kernel
theorem dX4_performFrame_49 : decode cX4_performFrame 49 = .ok (.getfield 118, 3) := by decide +kernel
theorem dX4_performFrame_52 : decode cX4_performFrame 52 = .ok (.iload_n 3, 1) := by decide +kernel
theorem dX4_performFrame_53 : decode cX4_performFrame 53 = .ok (.if_icmp .ge 17, 3) := by decide +kernel
theorem dX4_performFrame_56 : decode cX4_performFrame 56 = .ok (.aload_n 0, 1) := by decide +kernel
theorem dX4_performFrame_57 : decode cX4_performFrame 57 = .ok (.aload_n 2, 1) := by decide +kernel
theorem dX4_performFrame_58 : decode cX4_performFrame 58 = .ok (.iload_n 1, 1) := by decide +kernel
theorem dX4_performFrame_59 : decode cX4_performFrame 59 = .ok (.invokevirtual 121, 3) := by decide +kernel
theorem dX4_performFrame_62 : decode cX4_performFrame 62 = .ok (.astore 4, 2) := by decide +kernel
theorem dX4_performFrame_64 : decode cX4_performFrame 64 = .ok (.iinc 5 1, 3) := by decide +kernel
theorem dX4_performFrame_67 : decode cX4_performFrame 67 = .ok (.goto (-34), 3) := by decide +kernel
theorem dX4_performFrame_70 : decode cX4_performFrame 70 = .ok (.aload 4, 2) := by decide +kernel
theorem dX4_performFrame_72 : decode cX4_performFrame 72 = .ok (.getstatic 84, 3) := by decide +kernel
theorem dX4_performFrame_75 : decode cX4_performFrame 75 = .ok (.if_acmp .ne 12, 3) := by decide +kernel
theorem dX4_performFrame_78 : decode cX4_performFrame 78 = .ok (.aload_n 0, 1) := by decide +kernel
theorem dX4_performFrame_79 : decode cX4_performFrame 79 = .ok (.iconst 0, 1) := by decide +kernel
theorem dX4_performFrame_80 : decode cX4_performFrame 80 = .ok (.putfield 65, 3) := by decide +kernel
theorem dX4_performFrame_83 : decode cX4_performFrame 83 = .ok (.getstatic 59, 3) := by decide +kernel
theorem dX4_performFrame_86 : decode cX4_performFrame 86 = .ok (.areturn, 1) := by decide +kernel
theorem dX4_performFrame_87 : decode cX4_performFrame 87 = .ok (.aload 4, 2) := by decide +kernel
theorem dX4_performFrame_89 : decode cX4_performFrame 89 = .ok (.getstatic 125, 3) := by decide +kernel
theorem dX4_performFrame_92 : decode cX4_performFrame 92 = .ok (.if_acmp .ne 12, 3) := by decide +kernel
theorem dX4_performFrame_95 : decode cX4_performFrame 95 = .ok (.aload_n 0, 1) := by decide +kernel
theorem dX4_performFrame_96 : decode cX4_performFrame 96 = .ok (.aload_n 2, 1) := by decide +kernel
theorem dX4_performFrame_97 : decode cX4_performFrame 97 = .ok (.iload_n 1, 1) := by decide +kernel
theorem dX4_performFrame_98 : decode cX4_performFrame 98 = .ok (.invokevirtual 128, 3) := by decide +kernel
theorem dX4_performFrame_101 : decode cX4_performFrame 101 = .ok (.goto 5, 3) := by decide +kernel
theorem dX4_performFrame_104 : decode cX4_performFrame 104 = .ok (.aload 4, 2) := by decide +kernel
theorem dX4_performFrame_106 : decode cX4_performFrame 106 = .ok (.areturn, 1) := by decide +kernel
theorem dX4_performAct_0 : decode cX4_performAct 0 = .ok (.aload_n 1, 1) := by decide +kernel
theorem dX4_performAct_1 : decode cX4_performAct 1 = .ok (.aload_n 1, 1) := by decide +kernel
theorem dX4_performAct_2 : decode cX4_performAct 2 = .ok (.getfield 118, 3) := by decide +kernel
theorem dX4_performAct_5 : decode cX4_performAct 5 = .ok (.iconst 1, 1) := by decide +kernel
theorem dX4_performAct_6 : decode cX4_performAct 6 = .ok (.iadd, 1) := by decide +kernel
theorem dX4_performAct_7 : decode cX4_performAct 7 = .ok (.putfield 131, 3) := by decide +kernel
theorem dX4_performAct_10 : decode cX4_performAct 10 = .ok (.aload_n 1, 1) := by decide +kernel
theorem dX4_performAct_11 : decode cX4_performAct 11 = .ok (.iconst 0, 1) := by decide +kernel
theorem dX4_performAct_12 : decode cX4_performAct 12 = .ok (.putfield 134, 3) := by decide +kernel
theorem dX4_performAct_15 : decode cX4_performAct 15 = .ok (.aload_n 0, 1) := by decide +kernel
theorem dX4_performAct_16 : decode cX4_performAct 16 = .ok (.aload_n 1, 1) := by decide +kernel
theorem dX4_performAct_17 : decode cX4_performAct 17 = .ok (.aload_n 0, 1) := by decide +kernel
theorem dX4_performAct_18 : decode cX4_performAct 18 = .ok (.getfield 27, 3) := by decide +kernel
theorem dX4_performAct_21 : decode cX4_performAct 21 = .ok (.aload_n 1, 1) := by decide +kernel
theorem dX4_performAct_22 : decode cX4_performAct 22 = .ok (.getfield 104, 3) := by decide +kernel
theorem dX4_performAct_25 : decode cX4_performAct 25 = .ok (.aaload, 1) := by decide +kernel
theorem dX4_performAct_26 : decode cX4_performAct 26 = .ok (.getfield 107, 3) := by decide +kernel
theorem dX4_performAct_29 : decode cX4_performAct 29 = .ok (.aload_n 1, 1) := by decide +kernel
theorem dX4_performAct_30 : decode cX4_performAct 30 = .ok (.getfield 118, 3) := by decide +kernel
theorem dX4_performAct_33 : decode cX4_performAct 33 = .ok (.invokevirtual 137, 3) := by decide +kernel
theorem dX4_performAct_36 : decode cX4_performAct 36 = .ok (.checkcast 141, 3) := by decide +kernel
theorem dX4_performAct_39 : decode cX4_performAct 39 = .ok (.iload_n 2, 1) := by decide +kernel
theorem dX4_performAct_40 : decode cX4_performAct 40 = .ok (.invokevirtual 143, 3) := by decide +kernel
theorem dX4_performAct_43 : decode cX4_performAct 43 = .ok (.astore_n 3, 1) := by decide +kernel
theorem dX4_performAct_44 : decode cX4_performAct 44 = .ok (.aload_n 3, 1) := by decide +kernel
theorem dX4_performAct_45 : decode cX4_performAct 45 = .ok (.getstatic 84, 3) := by decide +kernel
theorem dX4_performAct_48 : decode cX4_performAct 48 = .ok (.if_acmp .ne 14, 3) := by decide +kernel
theorem dX4_performAct_51 : decode cX4_performAct 51 = .ok (.aload_n 0, 1) := by decide +kernel
theorem dX4_performAct_52 : decode cX4_performAct 52 = .ok (.aload_n 1, 1) := by decide +kernel
theorem dX4_performAct_53 : decode cX4_performAct 53 = .ok (.aload_n 1, 1) := by decide +kernel
theorem dX4_performAct_54 : decode cX4_performAct 54 = .ok (.getfield 131, 3) := by decide +kernel
theorem dX4_performAct_57 : decode cX4_performAct 57 = .ok (.iload_n 2, 1) := by decide +kernel
theorem dX4_performAct_58 : decode cX4_performAct 58 = .ok (.invokevirtual 147, 3) := by decide +kernel
theorem dX4_performAct_61 : decode cX4_performAct 61 = .ok (.areturn, 1) := by decide +kernel
theorem dX4_performAct_62 : decode cX4_performAct 62 = .ok (.aload_n 3, 1) := by decide +kernel
theorem dX4_performAct_63 : decode cX4_performAct 63 = .ok (.getstatic 59, 3) := by decide +kernel
theorem dX4_performAct_66 : decode cX4_performAct 66 = .ok (.if_acmp .ne 14, 3) := by decide +kernel
theorem dX4_performAct_69 : decode cX4_performAct 69 = .ok (.aload_n 0, 1) := by decide +kernel
theorem dX4_performAct_70 : decode cX4_performAct 70 = .ok (.aload_n 1, 1) := by decide +kernel
theorem dX4_performAct_71 : decode cX4_performAct 71 = .ok (.aload_n 0, 1) := by decide +kernel
theorem dX4_performAct_72 : decode cX4_performAct 72 = .ok (.getfield 65, 3) := by decide +kernel
theorem dX4_performAct_75 : decode cX4_performAct 75 = .ok (.iload_n 2, 1) := by decide +kernel
theorem dX4_performAct_76 : decode cX4_performAct 76 = .ok (.invokevirtual 151, 3) := by decide +kernel
theorem dX4_performAct_79 : decode cX4_performAct 79 = .ok (.areturn, 1) := by decide +kernel
theorem dX4_performAct_80 : decode cX4_performAct 80 = .ok (.aload_n 3, 1) := by decide +kernel
theorem dX4_performAct_81 : decode cX4_performAct 81 = .ok (.getstatic 72, 3) := by decide +kernel
theorem dX4_performAct_84 : decode cX4_performAct 84 = .ok (.if_acmp .ne 16, 3) := by decide +kernel
theorem dX4_performAct_87 : decode cX4_performAct 87 = .ok (.aload_n 0, 1) := by decide +kernel
theorem dX4_performAct_88 : decode cX4_performAct 88 = .ok (.aload_n 1, 1) := by decide +kernel
theorem dX4_performAct_89 : decode cX4_performAct 89 = .ok (.aload_n 0, 1) := by decide +kernel
theorem dX4_performAct_90 : decode cX4_performAct 90 = .ok (.getfield 75, 3) := by decide +kernel
theorem dX4_performAct_93 : decode cX4_performAct 93 = .ok (.iload_n 2, 1) := by decide +kernel
theorem dX4_performAct_94 : decode cX4_performAct 94 = .ok (.invokevirtual 154, 3) := by decide +kernel
theorem dX4_performAct_97 : decode cX4_performAct 97 = .ok (.goto 4, 3) := by decide +kernel
theorem dX4_performAct_100 : decode cX4_performAct 100 = .ok (.aload_n 3, 1) := by decide +kernel
theorem dX4_performAct_101 : decode cX4_performAct 101 = .ok (.areturn, 1) := by decide +kernel
theorem dX4_goOn_0 : decode cX4_goOn 0 = .ok (.iload_n 2, 1) := by decide +kernel
theorem dX4_goOn_1 : decode cX4_goOn 1 = .ok (.aload_n 0, 1) := by decide +kernel
theorem dX4_goOn_2 : decode cX4_goOn 2 = .ok (.getfield 27, 3) := by decide +kernel
theorem dX4_goOn_5 : decode cX4_goOn 5 = .ok (.aload_n 1, 1) := by decide +kernel
theorem dX4_goOn_6 : decode cX4_goOn 6 = .ok (.getfield 104, 3) := by decide +kernel
theorem dX4_goOn_9 : decode cX4_goOn 9 = .ok (.aaload, 1) := by decide +kernel
theorem dX4_goOn_10 : decode cX4_goOn 10 = .ok (.getfield 107, 3) := by decide +kernel
theorem dX4_goOn_13 : decode cX4_goOn 13 = .ok (.invokevirtual 111, 3) := by decide +kernel
theorem dX4_goOn_16 : decode cX4_goOn 16 = .ok (.if_icmp .ge 7, 3) := by decide +kernel
theorem dX4_goOn_19 : decode cX4_goOn 19 = .ok (.iload_n 2, 1) := by decide +kernel
theorem dX4_goOn_20 : decode cX4_goOn 20 = .ok (.goto 5, 3) := by decide +kernel
theorem dX4_goOn_23 : decode cX4_goOn 23 = .ok (.bipush 48, 2) := by decide +kernel
theorem dX4_goOn_25 : decode cX4_goOn 25 = .ok (.istore 4, 2) := by decide +kernel
theorem dX4_goOn_27 : decode cX4_goOn 27 = .ok (.aload_n 0, 1) := by decide +kernel
theorem dX4_goOn_28 : decode cX4_goOn 28 = .ok (.aload_n 1, 1) := by decide +kernel
theorem dX4_goOn_29 : decode cX4_goOn 29 = .ok (.iload 4, 2) := by decide +kernel
theorem dX4_goOn_31 : decode cX4_goOn 31 = .ok (.iload_n 3, 1) := by decide +kernel
theorem dX4_goOn_32 : decode cX4_goOn 32 = .ok (.invokevirtual 157, 3) := by decide +kernel
theorem dX4_goOn_35 : decode cX4_goOn 35 = .ok (.astore 5, 2) := by decide +kernel
theorem dX4_goOn_37 : decode cX4_goOn 37 = .ok (.aload 5, 2) := by decide +kernel
theorem dX4_goOn_39 : decode cX4_goOn 39 = .ok (.getstatic 84, 3) := by decide +kernel
theorem dX4_goOn_42 : decode cX4_goOn 42 = .ok (.if_acmp .ne 9, 3) := by decide +kernel
theorem dX4_goOn_45 : decode cX4_goOn 45 = .ok (.aload_n 1, 1) := by decide +kernel
theorem dX4_goOn_46 : decode cX4_goOn 46 = .ok (.iload 4, 2) := by decide +kernel
theorem dX4_goOn_48 : decode cX4_goOn 48 = .ok (.putfield 118, 3) := by decide +kernel
theorem dX4_goOn_51 : decode cX4_goOn 51 = .ok (.aload 5, 2) := by decide +kernel
theorem dX4_goOn_53 : decode cX4_goOn 53 = .ok (.areturn, 1) := by decide +kernel
theorem dX4_giveOut_0 : decode cX4_giveOut 0 = .ok (.aload_n 0, 1) := by decide +kernel
theorem dX4_giveOut_1 : decode cX4_giveOut 1 = .ok (.aload_n 1, 1) := by decide +kernel
theorem dX4_giveOut_2 : decode cX4_giveOut 2 = .ok (.bipush 48, 2) := by decide +kernel
theorem dX4_giveOut_4 : decode cX4_giveOut 4 = .ok (.iload_n 3, 1) := by decide +kernel
theorem dX4_giveOut_5 : decode cX4_giveOut 5 = .ok (.invokevirtual 157, 3) := by decide +kernel
theorem dX4_giveOut_8 : decode cX4_giveOut 8 = .ok (.astore 4, 2) := by decide +kernel
theorem dX4_giveOut_10 : decode cX4_giveOut 10 = .ok (.aload 4, 2) := by decide +kernel
theorem dX4_giveOut_12 : decode cX4_giveOut 12 = .ok (.getstatic 84, 3) := by decide +kernel
theorem dX4_giveOut_15 : decode cX4_giveOut 15 = .ok (.if_acmp .eq 6, 3) := by decide +kernel
theorem dX4_giveOut_18 : decode cX4_giveOut 18 = .ok (.aload 4, 2) := by decide +kernel
theorem dX4_giveOut_20 : decode cX4_giveOut 20 = .ok (.areturn, 1) := by decide +kernel
theorem dX4_giveOut_21 : decode cX4_giveOut 21 = .ok (.aload_n 0, 1) := by decide +kernel
theorem dX4_giveOut_22 : decode cX4_giveOut 22 = .ok (.iload_n 2, 1) := by decide +kernel
theorem dX4_giveOut_23 : decode cX4_giveOut 23 = .ok (.putfield 65, 3) := by decide +kernel
theorem dX4_giveOut_26 : decode cX4_giveOut 26 = .ok (.getstatic 59, 3) := by decide +kernel
theorem dX4_giveOut_29 : decode cX4_giveOut 29 = .ok (.areturn, 1) := by decide +kernel
theorem dX4_throwOut_0 : decode cX4_throwOut 0 = .ok (.aload_n 0, 1) := by decide +kernel
theorem dX4_throwOut_1 : decode cX4_throwOut 1 = .ok (.aload_n 1, 1) := by decide +kernel
theorem dX4_throwOut_2 : decode cX4_throwOut 2 = .ok (.bipush 48, 2) := by decide +kernel
theorem dX4_throwOut_4 : decode cX4_throwOut 4 = .ok (.iload_n 3, 1) := by decide +kernel
theorem dX4_throwOut_5 : decode cX4_throwOut 5 = .ok (.invokevirtual 157, 3) := by decide +kernel
theorem dX4_throwOut_8 : decode cX4_throwOut 8 = .ok (.astore 4, 2) := by decide +kernel
theorem dX4_throwOut_10 : decode cX4_throwOut 10 = .ok (.aload 4, 2) := by decide +kernel
theorem dX4_throwOut_12 : decode cX4_throwOut 12 = .ok (.getstatic 84, 3) := by decide +kernel
theorem dX4_throwOut_15 : decode cX4_throwOut 15 = .ok (.if_acmp .eq 6, 3) := by decide +kernel
theorem dX4_throwOut_18 : decode cX4_throwOut 18 = .ok (.aload 4, 2) := by decide +kernel
theorem dX4_throwOut_20 : decode cX4_throwOut 20 = .ok (.areturn, 1) := by decide +kernel
theorem dX4_throwOut_21 : decode cX4_throwOut 21 = .ok (.aload_n 0, 1) := by decide +kernel
theorem dX4_throwOut_22 : decode cX4_throwOut 22 = .ok (.iload_n 2, 1) := by decide +kernel
theorem dX4_throwOut_23 : decode cX4_throwOut 23 = .ok (.putfield 75, 3) := by decide +kernel
theorem dX4_throwOut_26 : decode cX4_throwOut 26 = .ok (.getstatic 72, 3) := by decide +kernel
theorem dX4_throwOut_29 : decode cX4_throwOut 29 = .ok (.areturn, 1) := by decide +kernel
theorem dX4_answerThrow_0 : decode cX4_answerThrow 0 = .ok (.aload_n 0, 1) := by decide +kernel
theorem dX4_answerThrow_1 : decode cX4_answerThrow 1 = .ok (.getfield 27, 3) := by decide +kernel
theorem dX4_answerThrow_4 : decode cX4_answerThrow 4 = .ok (.aload_n 1, 1) := by decide +kernel
theorem dX4_answerThrow_5 : decode cX4_answerThrow 5 = .ok (.getfield 104, 3) := by decide +kernel
theorem dX4_answerThrow_8 : decode cX4_answerThrow 8 = .ok (.aaload, 1) := by decide +kernel
theorem dX4_answerThrow_9 : decode cX4_answerThrow 9 = .ok (.astore 4, 2) := by decide +kernel
theorem dX4_answerThrow_11 : decode cX4_answerThrow 11 = .ok (.aload 4, 2) := by decide +kernel
theorem dX4_answerThrow_13 : decode cX4_answerThrow 13 = .ok (.aload_n 1, 1) := by decide +kernel
theorem dX4_answerThrow_14 : decode cX4_answerThrow 14 = .ok (.getfield 118, 3) := by decide +kernel
theorem dX4_answerThrow_17 : decode cX4_answerThrow 17 = .ok (.iload_n 2, 1) := by decide +kernel
theorem dX4_answerThrow_18 : decode cX4_answerThrow 18 = .ok (.invokevirtual 160, 3) := by decide +kernel
theorem dX4_answerThrow_21 : decode cX4_answerThrow 21 = .ok (.istore 5, 2) := by decide +kernel
theorem dX4_answerThrow_23 : decode cX4_answerThrow 23 = .ok (.iload 5, 2) := by decide +kernel
theorem dX4_answerThrow_25 : decode cX4_answerThrow 25 = .ok (.bipush (-3), 2) := by decide +kernel
theorem dX4_answerThrow_27 : decode cX4_answerThrow 27 = .ok (.if_icmp .ne 11, 3) := by decide +kernel
theorem dX4_answerThrow_30 : decode cX4_answerThrow 30 = .ok (.aload_n 0, 1) := by decide +kernel
theorem dX4_answerThrow_31 : decode cX4_answerThrow 31 = .ok (.aload_n 1, 1) := by decide +kernel
theorem dX4_answerThrow_32 : decode cX4_answerThrow 32 = .ok (.iload_n 2, 1) := by decide +kernel
theorem dX4_answerThrow_33 : decode cX4_answerThrow 33 = .ok (.iload_n 3, 1) := by decide +kernel
theorem dX4_answerThrow_34 : decode cX4_answerThrow 34 = .ok (.invokevirtual 164, 3) := by decide +kernel
theorem dX4_answerThrow_37 : decode cX4_answerThrow 37 = .ok (.areturn, 1) := by decide +kernel
theorem dX4_answerThrow_38 : decode cX4_answerThrow 38 = .ok (.aload_n 0, 1) := by decide +kernel
theorem dX4_answerThrow_39 : decode cX4_answerThrow 39 = .ok (.getfield 21, 3) := by decide +kernel
theorem dX4_answerThrow_42 : decode cX4_answerThrow 42 = .ok (.iconst 1, 1) := by decide +kernel
theorem dX4_answerThrow_43 : decode cX4_answerThrow 43 = .ok (.invokevirtual 91, 3) := by decide +kernel
theorem dX4_answerThrow_46 : decode cX4_answerThrow 46 = .ok (.astore 6, 2) := by decide +kernel
theorem dX4_answerThrow_48 : decode cX4_answerThrow 48 = .ok (.aload 6, 2) := by decide +kernel
theorem dX4_answerThrow_50 : decode cX4_answerThrow 50 = .ok (.getstatic 84, 3) := by decide +kernel
theorem dX4_answerThrow_53 : decode cX4_answerThrow 53 = .ok (.if_acmp .eq 6, 3) := by decide +kernel
theorem dX4_answerThrow_56 : decode cX4_answerThrow 56 = .ok (.aload 6, 2) := by decide +kernel
theorem dX4_answerThrow_58 : decode cX4_answerThrow 58 = .ok (.areturn, 1) := by decide +kernel
theorem dX4_answerThrow_59 : decode cX4_answerThrow 59 = .ok (.aload_n 0, 1) := by decide +kernel
theorem dX4_answerThrow_60 : decode cX4_answerThrow 60 = .ok (.getfield 12, 3) := by decide +kernel
theorem dX4_answerThrow_63 : decode cX4_answerThrow 63 = .ok (.dup, 1) := by decide +kernel
theorem dX4_answerThrow_64 : decode cX4_answerThrow 64 = .ok (.getfield 167, 3) := by decide +kernel
theorem dX4_answerThrow_67 : decode cX4_answerThrow 67 = .ok (.iconst 1, 1) := by decide +kernel
theorem dX4_answerThrow_68 : decode cX4_answerThrow 68 = .ok (.iadd, 1) := by decide +kernel
theorem dX4_answerThrow_69 : decode cX4_answerThrow 69 = .ok (.putfield 167, 3) := by decide +kernel
theorem dX4_answerThrow_72 : decode cX4_answerThrow 72 = .ok (.aload_n 0, 1) := by decide +kernel
theorem dX4_answerThrow_73 : decode cX4_answerThrow 73 = .ok (.aload_n 1, 1) := by decide +kernel
theorem dX4_answerThrow_74 : decode cX4_answerThrow 74 = .ok (.aload 4, 2) := by decide +kernel
theorem dX4_answerThrow_76 : decode cX4_answerThrow 76 = .ok (.getfield 170, 3) := by decide +kernel
theorem dX4_answerThrow_79 : decode cX4_answerThrow 79 = .ok (.iload 5, 2) := by decide +kernel
theorem dX4_answerThrow_81 : decode cX4_answerThrow 81 = .ok (.invokevirtual 137, 3) := by decide +kernel
theorem dX4_answerThrow_84 : decode cX4_answerThrow 84 = .ok (.checkcast 172, 3) := by decide +kernel
theorem dX4_answerThrow_87 : decode cX4_answerThrow 87 = .ok (.invokevirtual 174, 3) := by decide +kernel
theorem dX4_answerThrow_90 : decode cX4_answerThrow 90 = .ok (.iload_n 3, 1) := by decide +kernel
theorem dX4_answerThrow_91 : decode cX4_answerThrow 91 = .ok (.invokevirtual 147, 3) := by decide +kernel
theorem dX4_answerThrow_94 : decode cX4_answerThrow 94 = .ok (.astore 7, 2) := by decide +kernel
theorem dX4_answerThrow_96 : decode cX4_answerThrow 96 = .ok (.aload 7, 2) := by decide +kernel
theorem dX4_answerThrow_98 : decode cX4_answerThrow 98 = .ok (.getstatic 84, 3) := by decide +kernel
theorem dX4_answerThrow_101 : decode cX4_answerThrow 101 = .ok (.if_acmp .ne 10, 3) := by decide +kernel
theorem dX4_answerThrow_104 : decode cX4_answerThrow 104 = .ok (.aload_n 1, 1) := by decide +kernel
theorem dX4_answerThrow_105 : decode cX4_answerThrow 105 = .ok (.getfield 176, 3) := by decide +kernel
theorem dX4_answerThrow_108 : decode cX4_answerThrow 108 = .ok (.iconst 5, 1) := by decide +kernel
theorem dX4_answerThrow_109 : decode cX4_answerThrow 109 = .ok (.iload_n 2, 1) := by decide +kernel
theorem dX4_answerThrow_110 : decode cX4_answerThrow 110 = .ok (.iastore, 1) := by decide +kernel
theorem dX4_answerThrow_111 : decode cX4_answerThrow 111 = .ok (.aload 7, 2) := by decide +kernel
theorem dX4_answerThrow_113 : decode cX4_answerThrow 113 = .ok (.areturn, 1) := by decide +kernel
theorem dX4_leave_0 : decode cX4_leave 0 = .ok (.aload_n 0, 1) := by decide +kernel
theorem dX4_leave_1 : decode cX4_leave 1 = .ok (.getfield 27, 3) := by decide +kernel
theorem dX4_leave_4 : decode cX4_leave 4 = .ok (.aload_n 1, 1) := by decide +kernel
theorem dX4_leave_5 : decode cX4_leave 5 = .ok (.getfield 104, 3) := by decide +kernel
theorem dX4_leave_8 : decode cX4_leave 8 = .ok (.aaload, 1) := by decide +kernel
theorem dX4_leave_9 : decode cX4_leave 9 = .ok (.getfield 180, 3) := by decide +kernel
theorem dX4_leave_12 : decode cX4_leave 12 = .ok (.astore 4, 2) := by decide +kernel
theorem dX4_leave_14 : decode cX4_leave 14 = .ok (.aload 4, 2) := by decide +kernel
theorem dX4_leave_16 : decode cX4_leave 16 = .ok (.invokevirtual 111, 3) := by decide +kernel
theorem dX4_leave_19 : decode cX4_leave 19 = .ok (.iconst 1, 1) := by decide +kernel
theorem dX4_leave_20 : decode cX4_leave 20 = .ok (.isub, 1) := by decide +kernel
theorem dX4_leave_21 : decode cX4_leave 21 = .ok (.istore 5, 2) := by decide +kernel
theorem dX4_leave_23 : decode cX4_leave 23 = .ok (.iload 5, 2) := by decide +kernel
theorem dX4_leave_25 : decode cX4_leave 25 = .ok (.ifCond .lt 63, 3) := by decide +kernel
theorem dX4_leave_28 : decode cX4_leave 28 = .ok (.aload 4, 2) := by decide +kernel
theorem dX4_leave_30 : decode cX4_leave 30 = .ok (.iload 5, 2) := by decide +kernel
theorem dX4_leave_32 : decode cX4_leave 32 = .ok (.invokevirtual 137, 3) := by decide +kernel
theorem dX4_leave_35 : decode cX4_leave 35 = .ok (.checkcast 183, 3) := by decide +kernel
theorem dX4_leave_38 : decode cX4_leave 38 = .ok (.astore 6, 2) := by decide +kernel
theorem dX4_leave_40 : decode cX4_leave 40 = .ok (.aload 6, 2) := by decide +kernel
theorem dX4_leave_42 : decode cX4_leave 42 = .ok (.aload_n 1, 1) := by decide +kernel
theorem dX4_leave_43 : decode cX4_leave 43 = .ok (.getfield 118, 3) := by decide +kernel
theorem dX4_leave_46 : decode cX4_leave 46 = .ok (.invokevirtual 185, 3) := by decide +kernel
theorem dX4_leave_49 : decode cX4_leave 49 = .ok (.ifCond .eq 33, 3) := by decide +kernel
theorem dX4_leave_52 : decode cX4_leave 52 = .ok (.aload 6, 2) := by decide +kernel
theorem dX4_leave_54 : decode cX4_leave 54 = .ok (.iload_n 2, 1) := by decide +kernel
theorem dX4_leave_55 : decode cX4_leave 55 = .ok (.invokevirtual 185, 3) := by decide +kernel
theorem dX4_leave_58 : decode cX4_leave 58 = .ok (.ifCond .ne 24, 3) := by decide +kernel
theorem dX4_leave_61 : decode cX4_leave 61 = .ok (.aload_n 0, 1) := by decide +kernel
theorem dX4_leave_62 : decode cX4_leave 62 = .ok (.aload_n 1, 1) := by decide +kernel
theorem dX4_leave_63 : decode cX4_leave 63 = .ok (.iload 5, 2) := by decide +kernel
theorem dX4_leave_65 : decode cX4_leave 65 = .ok (.iload_n 3, 1) := by decide +kernel
theorem dX4_leave_66 : decode cX4_leave 66 = .ok (.invokevirtual 189, 3) := by decide +kernel
theorem dX4_leave_69 : decode cX4_leave 69 = .ok (.astore 7, 2) := by decide +kernel
theorem dX4_leave_71 : decode cX4_leave 71 = .ok (.aload 7, 2) := by decide +kernel
theorem dX4_leave_73 : decode cX4_leave 73 = .ok (.getstatic 59, 3) := by decide +kernel
theorem dX4_leave_76 : decode cX4_leave 76 = .ok (.if_acmp .eq 6, 3) := by decide +kernel
theorem dX4_leave_79 : decode cX4_leave 79 = .ok (.aload 7, 2) := by decide +kernel
theorem dX4_leave_81 : decode cX4_leave 81 = .ok (.areturn, 1) := by decide +kernel
theorem dX4_leave_82 : decode cX4_leave 82 = .ok (.iinc 5 (-1), 3) := by decide +kernel
theorem dX4_leave_85 : decode cX4_leave 85 = .ok (.goto (-62), 3) := by decide +kernel
theorem dX4_leave_88 : decode cX4_leave 88 = .ok (.getstatic 84, 3) := by decide +kernel
theorem dX4_leave_91 : decode cX4_leave 91 = .ok (.areturn, 1) := by decide +kernel
theorem dX4_cleanStopped_0 : decode cX4_cleanStopped 0 = .ok (.aload_n 0, 1) := by decide +kernel
theorem dX4_cleanStopped_1 : decode cX4_cleanStopped 1 = .ok (.getfield 27, 3) := by decide +kernel
theorem dX4_cleanStopped_4 : decode cX4_cleanStopped 4 = .ok (.aload_n 1, 1) := by decide +kernel
theorem dX4_cleanStopped_5 : decode cX4_cleanStopped 5 = .ok (.getfield 104, 3) := by decide +kernel
theorem dX4_cleanStopped_8 : decode cX4_cleanStopped 8 = .ok (.aaload, 1) := by decide +kernel
theorem dX4_cleanStopped_9 : decode cX4_cleanStopped 9 = .ok (.getfield 180, 3) := by decide +kernel
theorem dX4_cleanStopped_12 : decode cX4_cleanStopped 12 = .ok (.astore_n 3, 1) := by decide +kernel
theorem dX4_cleanStopped_13 : decode cX4_cleanStopped 13 = .ok (.aload_n 1, 1) := by decide +kernel
theorem dX4_cleanStopped_14 : decode cX4_cleanStopped 14 = .ok (.getfield 134, 3) := by decide +kernel
theorem dX4_cleanStopped_17 : decode cX4_cleanStopped 17 = .ok (.istore 4, 2) := by decide +kernel
theorem dX4_cleanStopped_19 : decode cX4_cleanStopped 19 = .ok (.aload_n 3, 1) := by decide +kernel
theorem dX4_cleanStopped_20 : decode cX4_cleanStopped 20 = .ok (.invokevirtual 111, 3) := by decide +kernel
theorem dX4_cleanStopped_23 : decode cX4_cleanStopped 23 = .ok (.iconst 1, 1) := by decide +kernel
theorem dX4_cleanStopped_24 : decode cX4_cleanStopped 24 = .ok (.isub, 1) := by decide +kernel
theorem dX4_cleanStopped_25 : decode cX4_cleanStopped 25 = .ok (.istore 5, 2) := by decide +kernel
theorem dX4_cleanStopped_27 : decode cX4_cleanStopped 27 = .ok (.iload 5, 2) := by decide +kernel
theorem dX4_cleanStopped_29 : decode cX4_cleanStopped 29 = .ok (.ifCond .lt 69, 3) := by decide +kernel
theorem dX4_cleanStopped_32 : decode cX4_cleanStopped 32 = .ok (.iload 4, 2) := by decide +kernel
theorem dX4_cleanStopped_34 : decode cX4_cleanStopped 34 = .ok (.iload 5, 2) := by decide +kernel
theorem dX4_cleanStopped_36 : decode cX4_cleanStopped 36 = .ok (.ishr, 1) := by decide +kernel
theorem dX4_cleanStopped_37 : decode cX4_cleanStopped 37 = .ok (.iconst 1, 1) := by decide +kernel
theorem dX4_cleanStopped_38 : decode cX4_cleanStopped 38 = .ok (.iand, 1) := by decide +kernel
theorem dX4_cleanStopped_39 : decode cX4_cleanStopped 39 = .ok (.iconst 1, 1) := by decide +kernel
theorem dX4_cleanStopped_40 : decode cX4_cleanStopped 40 = .ok (.if_icmp .ne 7, 3) := by decide +kernel
theorem dX4_cleanStopped_43 : decode cX4_cleanStopped 43 = .ok (.iconst 1, 1) := by decide +kernel
theorem dX4_cleanStopped_44 : decode cX4_cleanStopped 44 = .ok (.goto 4, 3) := by decide +kernel
theorem dX4_cleanStopped_47 : decode cX4_cleanStopped 47 = .ok (.iconst 0, 1) := by decide +kernel
theorem dX4_cleanStopped_48 : decode cX4_cleanStopped 48 = .ok (.istore 6, 2) := by decide +kernel
theorem dX4_cleanStopped_50 : decode cX4_cleanStopped 50 = .ok (.iload 6, 2) := by decide +kernel
theorem dX4_cleanStopped_52 : decode cX4_cleanStopped 52 = .ok (.ifCond .ne 40, 3) := by decide +kernel
theorem dX4_cleanStopped_55 : decode cX4_cleanStopped 55 = .ok (.aload_n 3, 1) := by decide +kernel
theorem dX4_cleanStopped_56 : decode cX4_cleanStopped 56 = .ok (.iload 5, 2) := by decide +kernel
theorem dX4_cleanStopped_58 : decode cX4_cleanStopped 58 = .ok (.invokevirtual 137, 3) := by decide +kernel
theorem dX4_cleanStopped_61 : decode cX4_cleanStopped 61 = .ok (.checkcast 183, 3) := by decide +kernel
theorem dX4_cleanStopped_64 : decode cX4_cleanStopped 64 = .ok (.aload_n 1, 1) := by decide +kernel
theorem dX4_cleanStopped_65 : decode cX4_cleanStopped 65 = .ok (.getfield 118, 3) := by decide +kernel
theorem dX4_cleanStopped_68 : decode cX4_cleanStopped 68 = .ok (.invokevirtual 185, 3) := by decide +kernel
theorem dX4_cleanStopped_71 : decode cX4_cleanStopped 71 = .ok (.ifCond .eq 21, 3) := by decide +kernel
theorem dX4_cleanStopped_74 : decode cX4_cleanStopped 74 = .ok (.aload_n 0, 1) := by decide +kernel
theorem dX4_cleanStopped_75 : decode cX4_cleanStopped 75 = .ok (.aload_n 1, 1) := by decide +kernel
theorem dX4_cleanStopped_76 : decode cX4_cleanStopped 76 = .ok (.iload 5, 2) := by decide +kernel
theorem dX4_cleanStopped_78 : decode cX4_cleanStopped 78 = .ok (.iload_n 2, 1) := by decide +kernel
theorem dX4_cleanStopped_79 : decode cX4_cleanStopped 79 = .ok (.invokevirtual 189, 3) := by decide +kernel
theorem dX4_cleanStopped_82 : decode cX4_cleanStopped 82 = .ok (.getstatic 192, 3) := by decide +kernel
theorem dX4_cleanStopped_85 : decode cX4_cleanStopped 85 = .ok (.if_acmp .ne 7, 3) := by decide +kernel
theorem dX4_cleanStopped_88 : decode cX4_cleanStopped 88 = .ok (.getstatic 192, 3) := by decide +kernel
theorem dX4_cleanStopped_91 : decode cX4_cleanStopped 91 = .ok (.areturn, 1) := by decide +kernel
theorem dX4_cleanStopped_92 : decode cX4_cleanStopped 92 = .ok (.iinc 5 (-1), 3) := by decide +kernel
theorem dX4_cleanStopped_95 : decode cX4_cleanStopped 95 = .ok (.goto (-68), 3) := by decide +kernel
theorem dX4_cleanStopped_98 : decode cX4_cleanStopped 98 = .ok (.getstatic 125, 3) := by decide +kernel
theorem dX4_cleanStopped_101 : decode cX4_cleanStopped 101 = .ok (.areturn, 1) := by decide +kernel
theorem dX4_cleanFrame_0 : decode cX4_cleanFrame 0 = .ok (.aload_n 0, 1) := by decide +kernel
theorem dX4_cleanFrame_1 : decode cX4_cleanFrame 1 = .ok (.getfield 27, 3) := by decide +kernel
theorem dX4_cleanFrame_4 : decode cX4_cleanFrame 4 = .ok (.aload_n 1, 1) := by decide +kernel
theorem dX4_cleanFrame_5 : decode cX4_cleanFrame 5 = .ok (.getfield 104, 3) := by decide +kernel
theorem dX4_cleanFrame_8 : decode cX4_cleanFrame 8 = .ok (.aaload, 1) := by decide +kernel
theorem dX4_cleanFrame_9 : decode cX4_cleanFrame 9 = .ok (.getfield 180, 3) := by decide +kernel
theorem dX4_cleanFrame_12 : decode cX4_cleanFrame 12 = .ok (.iload_n 2, 1) := by decide +kernel
theorem dX4_cleanFrame_13 : decode cX4_cleanFrame 13 = .ok (.invokevirtual 137, 3) := by decide +kernel
theorem dX4_cleanFrame_16 : decode cX4_cleanFrame 16 = .ok (.checkcast 183, 3) := by decide +kernel
theorem dX4_cleanFrame_19 : decode cX4_cleanFrame 19 = .ok (.invokevirtual 195, 3) := by decide +kernel
theorem dX4_cleanFrame_22 : decode cX4_cleanFrame 22 = .ok (.istore 4, 2) := by decide +kernel
theorem dX4_cleanFrame_24 : decode cX4_cleanFrame 24 = .ok (.aload_n 0, 1) := by decide +kernel
theorem dX4_cleanFrame_25 : decode cX4_cleanFrame 25 = .ok (.iload 4, 2) := by decide +kernel
theorem dX4_cleanFrame_27 : decode cX4_cleanFrame 27 = .ok (.aload_n 1, 1) := by decide +kernel
theorem dX4_cleanFrame_28 : decode cX4_cleanFrame 28 = .ok (.getfield 176, 3) := by decide +kernel
theorem dX4_cleanFrame_31 : decode cX4_cleanFrame 31 = .ok (.iconst 0, 1) := by decide +kernel
theorem dX4_cleanFrame_32 : decode cX4_cleanFrame 32 = .ok (.iaload, 1) := by decide +kernel
theorem dX4_cleanFrame_33 : decode cX4_cleanFrame 33 = .ok (.aload_n 1, 1) := by decide +kernel
theorem dX4_cleanFrame_34 : decode cX4_cleanFrame 34 = .ok (.getfield 198, 3) := by decide +kernel
theorem dX4_cleanFrame_37 : decode cX4_cleanFrame 37 = .ok (.iconst 0, 1) := by decide +kernel
theorem dX4_cleanFrame_38 : decode cX4_cleanFrame 38 = .ok (.iaload, 1) := by decide +kernel
theorem dX4_cleanFrame_39 : decode cX4_cleanFrame 39 = .ok (.iload_n 3, 1) := by decide +kernel
theorem dX4_cleanFrame_40 : decode cX4_cleanFrame 40 = .ok (.iconst 1, 1) := by decide +kernel
theorem dX4_cleanFrame_41 : decode cX4_cleanFrame 41 = .ok (.iadd, 1) := by decide +kernel
theorem dX4_cleanFrame_42 : decode cX4_cleanFrame 42 = .ok (.invokevirtual 81, 3) := by decide +kernel
theorem dX4_cleanFrame_45 : decode cX4_cleanFrame 45 = .ok (.astore 5, 2) := by decide +kernel
theorem dX4_cleanFrame_47 : decode cX4_cleanFrame 47 = .ok (.aload 5, 2) := by decide +kernel
theorem dX4_cleanFrame_49 : decode cX4_cleanFrame 49 = .ok (.getstatic 84, 3) := by decide +kernel
theorem dX4_cleanFrame_52 : decode cX4_cleanFrame 52 = .ok (.if_acmp .eq 6, 3) := by decide +kernel
theorem dX4_cleanFrame_55 : decode cX4_cleanFrame 55 = .ok (.aload 5, 2) := by decide +kernel
theorem dX4_cleanFrame_57 : decode cX4_cleanFrame 57 = .ok (.areturn, 1) := by decide +kernel
theorem dX4_cleanFrame_58 : decode cX4_cleanFrame 58 = .ok (.aload_n 1, 1) := by decide +kernel
theorem dX4_cleanFrame_59 : decode cX4_cleanFrame 59 = .ok (.dup, 1) := by decide +kernel
theorem dX4_cleanFrame_60 : decode cX4_cleanFrame 60 = .ok (.getfield 134, 3) := by decide +kernel
theorem dX4_cleanFrame_63 : decode cX4_cleanFrame 63 = .ok (.iconst 1, 1) := by decide +kernel
theorem dX4_cleanFrame_64 : decode cX4_cleanFrame 64 = .ok (.iload_n 2, 1) := by decide +kernel
theorem dX4_cleanFrame_65 : decode cX4_cleanFrame 65 = .ok (.ishl, 1) := by decide +kernel
theorem dX4_cleanFrame_66 : decode cX4_cleanFrame 66 = .ok (.ior, 1) := by decide +kernel
theorem dX4_cleanFrame_67 : decode cX4_cleanFrame 67 = .ok (.putfield 134, 3) := by decide +kernel
theorem dX4_cleanFrame_70 : decode cX4_cleanFrame 70 = .ok (.aload_n 0, 1) := by decide +kernel
theorem dX4_cleanFrame_71 : decode cX4_cleanFrame 71 = .ok (.getfield 12, 3) := by decide +kernel
theorem dX4_cleanFrame_74 : decode cX4_cleanFrame 74 = .ok (.iload 4, 2) := by decide +kernel
theorem dX4_cleanFrame_76 : decode cX4_cleanFrame 76 = .ok (.aload_n 1, 1) := by decide +kernel
theorem dX4_cleanFrame_77 : decode cX4_cleanFrame 77 = .ok (.getfield 104, 3) := by decide +kernel
theorem dX4_cleanFrame_80 : decode cX4_cleanFrame 80 = .ok (.iload_n 3, 1) := by decide +kernel
theorem dX4_cleanFrame_81 : decode cX4_cleanFrame 81 = .ok (.iconst 1, 1) := by decide +kernel
theorem dX4_cleanFrame_82 : decode cX4_cleanFrame 82 = .ok (.iadd, 1) := by decide +kernel
theorem dX4_cleanFrame_83 : decode cX4_cleanFrame 83 = .ok (.invokevirtual 200, 3) := by decide +kernel
theorem dX4_cleanFrame_86 : decode cX4_cleanFrame 86 = .ok (.aload_n 0, 1) := by decide +kernel
theorem dX4_cleanFrame_87 : decode cX4_cleanFrame 87 = .ok (.iload_n 3, 1) := by decide +kernel
theorem dX4_cleanFrame_88 : decode cX4_cleanFrame 88 = .ok (.iconst 1, 1) := by decide +kernel
theorem dX4_cleanFrame_89 : decode cX4_cleanFrame 89 = .ok (.iadd, 1) := by decide +kernel
theorem dX4_cleanFrame_90 : decode cX4_cleanFrame 90 = .ok (.invokevirtual 87, 3) := by decide +kernel
theorem dX4_cleanFrame_93 : decode cX4_cleanFrame 93 = .ok (.areturn, 1) := by decide +kernel
theorem dX4_raise_0 : decode cX4_raise 0 = .ok (.iload_n 1, 1) := by decide +kernel
theorem dX4_raise_1 : decode cX4_raise 1 = .ok (.bipush 7, 2) := by decide +kernel
theorem dX4_raise_3 : decode cX4_raise 3 = .ok (.if_icmp .ge 20, 3) := by decide +kernel
theorem dX4_raise_6 : decode cX4_raise 6 = .ok (.aload_n 0, 1) := by decide +kernel
theorem dX4_raise_7 : decode cX4_raise 7 = .ok (.getfield 21, 3) := by decide +kernel
theorem dX4_raise_10 : decode cX4_raise 10 = .ok (.invokevirtual 203, 3) := by decide +kernel
theorem dX4_raise_13 : decode cX4_raise 13 = .ok (.astore_n 2, 1) := by decide +kernel
theorem dX4_raise_14 : decode cX4_raise 14 = .ok (.aload_n 2, 1) := by decide +kernel
theorem dX4_raise_15 : decode cX4_raise 15 = .ok (.getstatic 84, 3) := by decide +kernel
theorem dX4_raise_18 : decode cX4_raise 18 = .ok (.if_acmp .eq 5, 3) := by decide +kernel
theorem dX4_raise_21 : decode cX4_raise 21 = .ok (.aload_n 2, 1) := by decide +kernel
theorem dX4_raise_22 : decode cX4_raise 22 = .ok (.areturn, 1) := by decide +kernel
theorem dX4_raise_23 : decode cX4_raise 23 = .ok (.aload_n 0, 1) := by decide +kernel
theorem dX4_raise_24 : decode cX4_raise 24 = .ok (.iload_n 1, 1) := by decide +kernel
theorem dX4_raise_25 : decode cX4_raise 25 = .ok (.putfield 75, 3) := by decide +kernel
theorem dX4_raise_28 : decode cX4_raise 28 = .ok (.getstatic 72, 3) := by decide +kernel
theorem dX4_raise_31 : decode cX4_raise 31 = .ok (.areturn, 1) := by decide +kernel
theorem dX4_doAct_0 : decode cX4_doAct 0 = .ok (.aload_n 2, 1) := by decide +kernel
theorem dX4_doAct_1 : decode cX4_doAct 1 = .ok (.invokevirtual 207, 3) := by decide +kernel
theorem dX4_doAct_4 : decode cX4_doAct 4 = .ok (.tableswitch 202 0 14 #[76, 90, 90, 90, 97, 97, 104, 114, 142, 149, 156, 163, 170, 177, 185], 76) := by decide +kernel
theorem dX4_doAct_80 : decode cX4_doAct 80 = .ok (.aload_n 0, 1) := by decide +kernel
theorem dX4_doAct_81 : decode cX4_doAct 81 = .ok (.aload_n 1, 1) := by decide +kernel
theorem dX4_doAct_82 : decode cX4_doAct 82 = .ok (.aload_n 2, 1) := by decide +kernel
theorem dX4_doAct_83 : decode cX4_doAct 83 = .ok (.invokevirtual 210, 3) := by decide +kernel
theorem dX4_doAct_86 : decode cX4_doAct 86 = .ok (.aload_n 2, 1) := by decide +kernel
theorem dX4_doAct_87 : decode cX4_doAct 87 = .ok (.invokevirtual 213, 3) := by decide +kernel
theorem dX4_doAct_90 : decode cX4_doAct 90 = .ok (.invokevirtual 216, 3) := by decide +kernel
theorem dX4_doAct_93 : decode cX4_doAct 93 = .ok (.areturn, 1) := by decide +kernel
theorem dX4_doAct_94 : decode cX4_doAct 94 = .ok (.aload_n 0, 1) := by decide +kernel
theorem dX4_doAct_95 : decode cX4_doAct 95 = .ok (.aload_n 1, 1) := by decide +kernel
theorem dX4_doAct_96 : decode cX4_doAct 96 = .ok (.aload_n 2, 1) := by decide +kernel
theorem dX4_doAct_97 : decode cX4_doAct 97 = .ok (.invokevirtual 219, 3) := by decide +kernel
theorem dX4_doAct_100 : decode cX4_doAct 100 = .ok (.areturn, 1) := by decide +kernel
theorem dX4_doAct_101 : decode cX4_doAct 101 = .ok (.aload_n 0, 1) := by decide +kernel
theorem dX4_doAct_102 : decode cX4_doAct 102 = .ok (.aload_n 1, 1) := by decide +kernel
theorem dX4_doAct_103 : decode cX4_doAct 103 = .ok (.aload_n 2, 1) := by decide +kernel
theorem dX4_doAct_104 : decode cX4_doAct 104 = .ok (.invokevirtual 223, 3) := by decide +kernel
theorem dX4_doAct_107 : decode cX4_doAct 107 = .ok (.areturn, 1) := by decide +kernel
theorem dX4_doAct_108 : decode cX4_doAct 108 = .ok (.aload_n 0, 1) := by decide +kernel
theorem dX4_doAct_109 : decode cX4_doAct 109 = .ok (.aload_n 1, 1) := by decide +kernel
theorem dX4_doAct_110 : decode cX4_doAct 110 = .ok (.aload_n 2, 1) := by decide +kernel
theorem dX4_doAct_111 : decode cX4_doAct 111 = .ok (.invokevirtual 213, 3) := by decide +kernel
theorem dX4_doAct_114 : decode cX4_doAct 114 = .ok (.invokevirtual 226, 3) := by decide +kernel
theorem dX4_doAct_117 : decode cX4_doAct 117 = .ok (.areturn, 1) := by decide +kernel
theorem dX4_doAct_118 : decode cX4_doAct 118 = .ok (.aload_n 1, 1) := by decide +kernel
theorem dX4_doAct_119 : decode cX4_doAct 119 = .ok (.getfield 176, 3) := by decide +kernel
theorem dX4_doAct_122 : decode cX4_doAct 122 = .ok (.aload_n 2, 1) := by decide +kernel
theorem dX4_doAct_123 : decode cX4_doAct 123 = .ok (.invokevirtual 210, 3) := by decide +kernel
theorem dX4_doAct_126 : decode cX4_doAct 126 = .ok (.iaload, 1) := by decide +kernel
theorem dX4_doAct_127 : decode cX4_doAct 127 = .ok (.ifCond .le 15, 3) := by decide +kernel
theorem dX4_doAct_130 : decode cX4_doAct 130 = .ok (.aload_n 0, 1) := by decide +kernel
theorem dX4_doAct_131 : decode cX4_doAct 131 = .ok (.aload_n 1, 1) := by decide +kernel
theorem dX4_doAct_132 : decode cX4_doAct 132 = .ok (.aload_n 2, 1) := by decide +kernel
theorem dX4_doAct_133 : decode cX4_doAct 133 = .ok (.invokevirtual 213, 3) := by decide +kernel
theorem dX4_doAct_136 : decode cX4_doAct 136 = .ok (.invokevirtual 226, 3) := by decide +kernel
theorem dX4_doAct_139 : decode cX4_doAct 139 = .ok (.goto 6, 3) := by decide +kernel
theorem dX4_doAct_142 : decode cX4_doAct 142 = .ok (.getstatic 84, 3) := by decide +kernel
theorem dX4_doAct_145 : decode cX4_doAct 145 = .ok (.areturn, 1) := by decide +kernel
theorem dX4_doAct_146 : decode cX4_doAct 146 = .ok (.aload_n 0, 1) := by decide +kernel
theorem dX4_doAct_147 : decode cX4_doAct 147 = .ok (.aload_n 1, 1) := by decide +kernel
theorem dX4_doAct_148 : decode cX4_doAct 148 = .ok (.aload_n 2, 1) := by decide +kernel
theorem dX4_doAct_149 : decode cX4_doAct 149 = .ok (.invokevirtual 229, 3) := by decide +kernel
theorem dX4_doAct_152 : decode cX4_doAct 152 = .ok (.areturn, 1) := by decide +kernel
theorem dX4_doAct_153 : decode cX4_doAct 153 = .ok (.aload_n 0, 1) := by decide +kernel
theorem dX4_doAct_154 : decode cX4_doAct 154 = .ok (.aload_n 1, 1) := by decide +kernel
theorem dX4_doAct_155 : decode cX4_doAct 155 = .ok (.aload_n 2, 1) := by decide +kernel
theorem dX4_doAct_156 : decode cX4_doAct 156 = .ok (.invokevirtual 232, 3) := by decide +kernel
theorem dX4_doAct_159 : decode cX4_doAct 159 = .ok (.areturn, 1) := by decide +kernel
theorem dX4_doAct_160 : decode cX4_doAct 160 = .ok (.aload_n 0, 1) := by decide +kernel
theorem dX4_doAct_161 : decode cX4_doAct 161 = .ok (.aload_n 1, 1) := by decide +kernel
theorem dX4_doAct_162 : decode cX4_doAct 162 = .ok (.aload_n 2, 1) := by decide +kernel
theorem dX4_doAct_163 : decode cX4_doAct 163 = .ok (.invokevirtual 235, 3) := by decide +kernel
theorem dX4_doAct_166 : decode cX4_doAct 166 = .ok (.areturn, 1) := by decide +kernel
theorem dX4_doAct_167 : decode cX4_doAct 167 = .ok (.aload_n 0, 1) := by decide +kernel
theorem dX4_doAct_168 : decode cX4_doAct 168 = .ok (.aload_n 1, 1) := by decide +kernel
theorem dX4_doAct_169 : decode cX4_doAct 169 = .ok (.aload_n 2, 1) := by decide +kernel
theorem dX4_doAct_170 : decode cX4_doAct 170 = .ok (.invokevirtual 238, 3) := by decide +kernel
theorem dX4_doAct_173 : decode cX4_doAct 173 = .ok (.areturn, 1) := by decide +kernel
theorem dX4_doAct_174 : decode cX4_doAct 174 = .ok (.aload_n 0, 1) := by decide +kernel
theorem dX4_doAct_175 : decode cX4_doAct 175 = .ok (.aload_n 1, 1) := by decide +kernel
theorem dX4_doAct_176 : decode cX4_doAct 176 = .ok (.aload_n 2, 1) := by decide +kernel
theorem dX4_doAct_177 : decode cX4_doAct 177 = .ok (.invokevirtual 241, 3) := by decide +kernel
theorem dX4_doAct_180 : decode cX4_doAct 180 = .ok (.areturn, 1) := by decide +kernel
theorem dX4_doAct_181 : decode cX4_doAct 181 = .ok (.aload_n 0, 1) := by decide +kernel
theorem dX4_doAct_182 : decode cX4_doAct 182 = .ok (.aload_n 1, 1) := by decide +kernel
theorem dX4_doAct_183 : decode cX4_doAct 183 = .ok (.aload_n 2, 1) := by decide +kernel
theorem dX4_doAct_184 : decode cX4_doAct 184 = .ok (.iload_n 3, 1) := by decide +kernel
theorem dX4_doAct_185 : decode cX4_doAct 185 = .ok (.invokevirtual 244, 3) := by decide +kernel
theorem dX4_doAct_188 : decode cX4_doAct 188 = .ok (.areturn, 1) := by decide +kernel
theorem dX4_doAct_189 : decode cX4_doAct 189 = .ok (.aload_n 0, 1) := by decide +kernel
theorem dX4_doAct_190 : decode cX4_doAct 190 = .ok (.aload_n 1, 1) := by decide +kernel
theorem dX4_doAct_191 : decode cX4_doAct 191 = .ok (.getfield 176, 3) := by decide +kernel
theorem dX4_doAct_194 : decode cX4_doAct 194 = .ok (.aload_n 2, 1) := by decide +kernel
theorem dX4_doAct_195 : decode cX4_doAct 195 = .ok (.invokevirtual 210, 3) := by decide +kernel
theorem dX4_doAct_198 : decode cX4_doAct 198 = .ok (.iaload, 1) := by decide +kernel
theorem dX4_doAct_199 : decode cX4_doAct 199 = .ok (.putfield 65, 3) := by decide +kernel
theorem dX4_doAct_202 : decode cX4_doAct 202 = .ok (.getstatic 59, 3) := by decide +kernel
theorem dX4_doAct_205 : decode cX4_doAct 205 = .ok (.areturn, 1) := by decide +kernel
theorem dX4_doAct_206 : decode cX4_doAct 206 = .ok (.aload_n 0, 1) := by decide +kernel
theorem dX4_doAct_207 : decode cX4_doAct 207 = .ok (.aload_n 2, 1) := by decide +kernel
theorem dX4_doAct_208 : decode cX4_doAct 208 = .ok (.invokevirtual 213, 3) := by decide +kernel
theorem dX4_doAct_211 : decode cX4_doAct 211 = .ok (.invokevirtual 94, 3) := by decide +kernel
theorem dX4_doAct_214 : decode cX4_doAct 214 = .ok (.areturn, 1) := by decide +kernel
theorem dX4_setNumber_0 : decode cX4_setNumber 0 = .ok (.aload_n 1, 1) := by decide +kernel
theorem dX4_setNumber_1 : decode cX4_setNumber 1 = .ok (.getfield 176, 3) := by decide +kernel
theorem dX4_setNumber_4 : decode cX4_setNumber 4 = .ok (.iload_n 2, 1) := by decide +kernel
theorem dX4_setNumber_5 : decode cX4_setNumber 5 = .ok (.iload_n 3, 1) := by decide +kernel
theorem dX4_setNumber_6 : decode cX4_setNumber 6 = .ok (.iastore, 1) := by decide +kernel
theorem dX4_setNumber_7 : decode cX4_setNumber 7 = .ok (.getstatic 84, 3) := by decide +kernel
theorem dX4_setNumber_10 : decode cX4_setNumber 10 = .ok (.areturn, 1) := by decide +kernel
theorem dX4_reckon_0 : decode cX4_reckon 0 = .ok (.aload_n 1, 1) := by decide +kernel
theorem dX4_reckon_1 : decode cX4_reckon 1 = .ok (.getfield 176, 3) := by decide +kernel
theorem dX4_reckon_4 : decode cX4_reckon 4 = .ok (.aload_n 2, 1) := by decide +kernel
theorem dX4_reckon_5 : decode cX4_reckon 5 = .ok (.invokevirtual 213, 3) := by decide +kernel
theorem dX4_reckon_8 : decode cX4_reckon 8 = .ok (.iaload, 1) := by decide +kernel
theorem dX4_reckon_9 : decode cX4_reckon 9 = .ok (.istore_n 3, 1) := by decide +kernel
theorem dX4_reckon_10 : decode cX4_reckon 10 = .ok (.aload_n 1, 1) := by decide +kernel
theorem dX4_reckon_11 : decode cX4_reckon 11 = .ok (.getfield 176, 3) := by decide +kernel
theorem dX4_reckon_14 : decode cX4_reckon 14 = .ok (.aload_n 2, 1) := by decide +kernel
theorem dX4_reckon_15 : decode cX4_reckon 15 = .ok (.invokevirtual 247, 3) := by decide +kernel
theorem dX4_reckon_18 : decode cX4_reckon 18 = .ok (.iaload, 1) := by decide +kernel
theorem dX4_reckon_19 : decode cX4_reckon 19 = .ok (.istore 4, 2) := by decide +kernel
theorem dX4_reckon_21 : decode cX4_reckon 21 = .ok (.aload_n 2, 1) := by decide +kernel
theorem dX4_reckon_22 : decode cX4_reckon 22 = .ok (.invokevirtual 207, 3) := by decide +kernel
theorem dX4_reckon_25 : decode cX4_reckon 25 = .ok (.iconst 1, 1) := by decide +kernel
theorem dX4_reckon_26 : decode cX4_reckon 26 = .ok (.if_icmp .ne 17, 3) := by decide +kernel
theorem dX4_reckon_29 : decode cX4_reckon 29 = .ok (.aload_n 0, 1) := by decide +kernel
theorem dX4_reckon_30 : decode cX4_reckon 30 = .ok (.aload_n 1, 1) := by decide +kernel
theorem dX4_reckon_31 : decode cX4_reckon 31 = .ok (.aload_n 2, 1) := by decide +kernel
theorem dX4_reckon_32 : decode cX4_reckon 32 = .ok (.invokevirtual 210, 3) := by decide +kernel
theorem dX4_reckon_35 : decode cX4_reckon 35 = .ok (.iload_n 3, 1) := by decide +kernel
theorem dX4_reckon_36 : decode cX4_reckon 36 = .ok (.iload 4, 2) := by decide +kernel
theorem dX4_reckon_38 : decode cX4_reckon 38 = .ok (.iadd, 1) := by decide +kernel
theorem dX4_reckon_39 : decode cX4_reckon 39 = .ok (.invokevirtual 216, 3) := by decide +kernel
theorem dX4_reckon_42 : decode cX4_reckon 42 = .ok (.areturn, 1) := by decide +kernel
theorem dX4_reckon_43 : decode cX4_reckon 43 = .ok (.aload_n 0, 1) := by decide +kernel
theorem dX4_reckon_44 : decode cX4_reckon 44 = .ok (.aload_n 1, 1) := by decide +kernel
theorem dX4_reckon_45 : decode cX4_reckon 45 = .ok (.aload_n 2, 1) := by decide +kernel
theorem dX4_reckon_46 : decode cX4_reckon 46 = .ok (.invokevirtual 210, 3) := by decide +kernel
theorem dX4_reckon_49 : decode cX4_reckon 49 = .ok (.aload_n 2, 1) := by decide +kernel
theorem dX4_reckon_50 : decode cX4_reckon 50 = .ok (.invokevirtual 207, 3) := by decide +kernel
theorem dX4_reckon_53 : decode cX4_reckon 53 = .ok (.iconst 2, 1) := by decide +kernel
theorem dX4_reckon_54 : decode cX4_reckon 54 = .ok (.if_icmp .ne 10, 3) := by decide +kernel
theorem dX4_reckon_57 : decode cX4_reckon 57 = .ok (.iload_n 3, 1) := by decide +kernel
theorem dX4_reckon_58 : decode cX4_reckon 58 = .ok (.iload 4, 2) := by decide +kernel
theorem dX4_reckon_60 : decode cX4_reckon 60 = .ok (.isub, 1) := by decide +kernel
theorem dX4_reckon_61 : decode cX4_reckon 61 = .ok (.goto 7, 3) := by decide +kernel
theorem dX4_reckon_64 : decode cX4_reckon 64 = .ok (.iload_n 3, 1) := by decide +kernel
theorem dX4_reckon_65 : decode cX4_reckon 65 = .ok (.iload 4, 2) := by decide +kernel
theorem dX4_reckon_67 : decode cX4_reckon 67 = .ok (.imul, 1) := by decide +kernel
theorem dX4_reckon_68 : decode cX4_reckon 68 = .ok (.invokevirtual 216, 3) := by decide +kernel
theorem dX4_reckon_71 : decode cX4_reckon 71 = .ok (.areturn, 1) := by decide +kernel
theorem dX4_divide_0 : decode cX4_divide 0 = .ok (.aload_n 1, 1) := by decide +kernel
theorem dX4_divide_1 : decode cX4_divide 1 = .ok (.getfield 176, 3) := by decide +kernel
theorem dX4_divide_4 : decode cX4_divide 4 = .ok (.aload_n 2, 1) := by decide +kernel
theorem dX4_divide_5 : decode cX4_divide 5 = .ok (.invokevirtual 213, 3) := by decide +kernel
theorem dX4_divide_8 : decode cX4_divide 8 = .ok (.iaload, 1) := by decide +kernel
theorem dX4_divide_9 : decode cX4_divide 9 = .ok (.istore_n 3, 1) := by decide +kernel
theorem dX4_divide_10 : decode cX4_divide 10 = .ok (.aload_n 1, 1) := by decide +kernel
theorem dX4_divide_11 : decode cX4_divide 11 = .ok (.getfield 176, 3) := by decide +kernel
theorem dX4_divide_14 : decode cX4_divide 14 = .ok (.aload_n 2, 1) := by decide +kernel
theorem dX4_divide_15 : decode cX4_divide 15 = .ok (.invokevirtual 247, 3) := by decide +kernel
theorem dX4_divide_18 : decode cX4_divide 18 = .ok (.iaload, 1) := by decide +kernel
theorem dX4_divide_19 : decode cX4_divide 19 = .ok (.istore 4, 2) := by decide +kernel
theorem dX4_divide_21 : decode cX4_divide 21 = .ok (.iload 4, 2) := by decide +kernel
theorem dX4_divide_23 : decode cX4_divide 23 = .ok (.ifCond .ne 9, 3) := by decide +kernel
theorem dX4_divide_26 : decode cX4_divide 26 = .ok (.aload_n 0, 1) := by decide +kernel
theorem dX4_divide_27 : decode cX4_divide 27 = .ok (.iconst 1, 1) := by decide +kernel
theorem dX4_divide_28 : decode cX4_divide 28 = .ok (.invokevirtual 94, 3) := by decide +kernel
theorem dX4_divide_31 : decode cX4_divide 31 = .ok (.areturn, 1) := by decide +kernel
theorem dX4_divide_32 : decode cX4_divide 32 = .ok (.aload_n 0, 1) := by decide +kernel
theorem dX4_divide_33 : decode cX4_divide 33 = .ok (.aload_n 1, 1) := by decide +kernel
theorem dX4_divide_34 : decode cX4_divide 34 = .ok (.aload_n 2, 1) := by decide +kernel
theorem dX4_divide_35 : decode cX4_divide 35 = .ok (.invokevirtual 210, 3) := by decide +kernel
theorem dX4_divide_38 : decode cX4_divide 38 = .ok (.aload_n 2, 1) := by decide +kernel
theorem dX4_divide_39 : decode cX4_divide 39 = .ok (.invokevirtual 207, 3) := by decide +kernel
theorem dX4_divide_42 : decode cX4_divide 42 = .ok (.iconst 4, 1) := by decide +kernel
theorem dX4_divide_43 : decode cX4_divide 43 = .ok (.if_icmp .ne 10, 3) := by decide +kernel
theorem dX4_divide_46 : decode cX4_divide 46 = .ok (.iload_n 3, 1) := by decide +kernel
theorem dX4_divide_47 : decode cX4_divide 47 = .ok (.iload 4, 2) := by decide +kernel
theorem dX4_divide_49 : decode cX4_divide 49 = .ok (.idiv, 1) := by decide +kernel
theorem dX4_divide_50 : decode cX4_divide 50 = .ok (.goto 7, 3) := by decide +kernel
theorem dX4_divide_53 : decode cX4_divide 53 = .ok (.iload_n 3, 1) := by decide +kernel
theorem dX4_divide_54 : decode cX4_divide 54 = .ok (.iload 4, 2) := by decide +kernel
theorem dX4_divide_56 : decode cX4_divide 56 = .ok (.irem, 1) := by decide +kernel
theorem dX4_divide_57 : decode cX4_divide 57 = .ok (.invokevirtual 216, 3) := by decide +kernel
theorem dX4_divide_60 : decode cX4_divide 60 = .ok (.areturn, 1) := by decide +kernel
theorem dX4_jump_0 : decode cX4_jump 0 = .ok (.iload_n 2, 1) := by decide +kernel
theorem dX4_jump_1 : decode cX4_jump 1 = .ok (.aload_n 1, 1) := by decide +kernel
theorem dX4_jump_2 : decode cX4_jump 2 = .ok (.getfield 118, 3) := by decide +kernel
theorem dX4_jump_5 : decode cX4_jump 5 = .ok (.if_icmp .gt 21, 3) := by decide +kernel
theorem dX4_jump_8 : decode cX4_jump 8 = .ok (.aload_n 0, 1) := by decide +kernel
theorem dX4_jump_9 : decode cX4_jump 9 = .ok (.getfield 21, 3) := by decide +kernel
theorem dX4_jump_12 : decode cX4_jump 12 = .ok (.iconst 1, 1) := by decide +kernel
theorem dX4_jump_13 : decode cX4_jump 13 = .ok (.invokevirtual 91, 3) := by decide +kernel
theorem dX4_jump_16 : decode cX4_jump 16 = .ok (.astore_n 3, 1) := by decide +kernel
theorem dX4_jump_17 : decode cX4_jump 17 = .ok (.aload_n 3, 1) := by decide +kernel
theorem dX4_jump_18 : decode cX4_jump 18 = .ok (.getstatic 84, 3) := by decide +kernel
theorem dX4_jump_21 : decode cX4_jump 21 = .ok (.if_acmp .eq 5, 3) := by decide +kernel
theorem dX4_jump_24 : decode cX4_jump 24 = .ok (.aload_n 3, 1) := by decide +kernel
theorem dX4_jump_25 : decode cX4_jump 25 = .ok (.areturn, 1) := by decide +kernel
theorem dX4_jump_26 : decode cX4_jump 26 = .ok (.aload_n 1, 1) := by decide +kernel
theorem dX4_jump_27 : decode cX4_jump 27 = .ok (.iload_n 2, 1) := by decide +kernel
theorem dX4_jump_28 : decode cX4_jump 28 = .ok (.putfield 131, 3) := by decide +kernel
theorem dX4_jump_31 : decode cX4_jump 31 = .ok (.getstatic 84, 3) := by decide +kernel
theorem dX4_jump_34 : decode cX4_jump 34 = .ok (.areturn, 1) := by decide +kernel
theorem dX4_newRow_0 : decode cX4_newRow 0 = .ok (.aload_n 1, 1) := by decide +kernel
theorem dX4_newRow_1 : decode cX4_newRow 1 = .ok (.getfield 176, 3) := by decide +kernel
theorem dX4_newRow_4 : decode cX4_newRow 4 = .ok (.aload_n 2, 1) := by decide +kernel
theorem dX4_newRow_5 : decode cX4_newRow 5 = .ok (.invokevirtual 247, 3) := by decide +kernel
theorem dX4_newRow_8 : decode cX4_newRow 8 = .ok (.iaload, 1) := by decide +kernel
theorem dX4_newRow_9 : decode cX4_newRow 9 = .ok (.istore_n 3, 1) := by decide +kernel
theorem dX4_newRow_10 : decode cX4_newRow 10 = .ok (.iload_n 3, 1) := by decide +kernel
theorem dX4_newRow_11 : decode cX4_newRow 11 = .ok (.ifCond .lt 13, 3) := by decide +kernel
theorem dX4_newRow_14 : decode cX4_newRow 14 = .ok (.iload_n 3, 1) := by decide +kernel
theorem dX4_newRow_15 : decode cX4_newRow 15 = .ok (.bipush 64, 2) := by decide +kernel
theorem dX4_newRow_17 : decode cX4_newRow 17 = .ok (.if_icmp .gt 7, 3) := by decide +kernel
theorem dX4_newRow_20 : decode cX4_newRow 20 = .ok (.iconst 1, 1) := by decide +kernel
theorem dX4_newRow_21 : decode cX4_newRow 21 = .ok (.goto 4, 3) := by decide +kernel
theorem dX4_newRow_24 : decode cX4_newRow 24 = .ok (.iconst 0, 1) := by decide +kernel
theorem dX4_newRow_25 : decode cX4_newRow 25 = .ok (.istore 4, 2) := by decide +kernel
theorem dX4_newRow_27 : decode cX4_newRow 27 = .ok (.aload_n 0, 1) := by decide +kernel
theorem dX4_newRow_28 : decode cX4_newRow 28 = .ok (.getfield 21, 3) := by decide +kernel
theorem dX4_newRow_31 : decode cX4_newRow 31 = .ok (.iload 4, 2) := by decide +kernel
theorem dX4_newRow_33 : decode cX4_newRow 33 = .ok (.ifCond .eq 12, 3) := by decide +kernel
theorem dX4_newRow_36 : decode cX4_newRow 36 = .ok (.iconst 1, 1) := by decide +kernel
theorem dX4_newRow_37 : decode cX4_newRow 37 = .ok (.iload_n 3, 1) := by decide +kernel
theorem dX4_newRow_38 : decode cX4_newRow 38 = .ok (.bipush 8, 2) := by decide +kernel
theorem dX4_newRow_40 : decode cX4_newRow 40 = .ok (.idiv, 1) := by decide +kernel
theorem dX4_newRow_41 : decode cX4_newRow 41 = .ok (.iadd, 1) := by decide +kernel
theorem dX4_newRow_42 : decode cX4_newRow 42 = .ok (.goto 4, 3) := by decide +kernel
theorem dX4_newRow_45 : decode cX4_newRow 45 = .ok (.iconst 1, 1) := by decide +kernel
theorem dX4_newRow_46 : decode cX4_newRow 46 = .ok (.invokevirtual 91, 3) := by decide +kernel
theorem dX4_newRow_49 : decode cX4_newRow 49 = .ok (.astore 5, 2) := by decide +kernel
theorem dX4_newRow_51 : decode cX4_newRow 51 = .ok (.aload 5, 2) := by decide +kernel
theorem dX4_newRow_53 : decode cX4_newRow 53 = .ok (.getstatic 84, 3) := by decide +kernel
theorem dX4_newRow_56 : decode cX4_newRow 56 = .ok (.if_acmp .eq 6, 3) := by decide +kernel
theorem dX4_newRow_59 : decode cX4_newRow 59 = .ok (.aload 5, 2) := by decide +kernel
theorem dX4_newRow_61 : decode cX4_newRow 61 = .ok (.areturn, 1) := by decide +kernel
theorem dX4_newRow_62 : decode cX4_newRow 62 = .ok (.iload 4, 2) := by decide +kernel
theorem dX4_newRow_64 : decode cX4_newRow 64 = .ok (.ifCond .ne 19, 3) := by decide +kernel
theorem dX4_newRow_67 : decode cX4_newRow 67 = .ok (.aload_n 0, 1) := by decide +kernel
theorem dX4_newRow_68 : decode cX4_newRow 68 = .ok (.iload_n 3, 1) := by decide +kernel
theorem dX4_newRow_69 : decode cX4_newRow 69 = .ok (.ifCond .ge 8, 3) := by decide +kernel
theorem dX4_newRow_72 : decode cX4_newRow 72 = .ok (.bipush 6, 2) := by decide +kernel
theorem dX4_newRow_74 : decode cX4_newRow 74 = .ok (.goto 5, 3) := by decide +kernel
theorem dX4_newRow_77 : decode cX4_newRow 77 = .ok (.bipush 7, 2) := by decide +kernel
theorem dX4_newRow_79 : decode cX4_newRow 79 = .ok (.invokevirtual 94, 3) := by decide +kernel
theorem dX4_newRow_82 : decode cX4_newRow 82 = .ok (.areturn, 1) := by decide +kernel
theorem dX4_newRow_83 : decode cX4_newRow 83 = .ok (.aload_n 1, 1) := by decide +kernel
theorem dX4_newRow_84 : decode cX4_newRow 84 = .ok (.getfield 198, 3) := by decide +kernel
theorem dX4_newRow_87 : decode cX4_newRow 87 = .ok (.aload_n 2, 1) := by decide +kernel
theorem dX4_newRow_88 : decode cX4_newRow 88 = .ok (.invokevirtual 210, 3) := by decide +kernel
theorem dX4_newRow_91 : decode cX4_newRow 91 = .ok (.aload_n 0, 1) := by decide +kernel
theorem dX4_newRow_92 : decode cX4_newRow 92 = .ok (.getfield 34, 3) := by decide +kernel
theorem dX4_newRow_95 : decode cX4_newRow 95 = .ok (.aload_n 2, 1) := by decide +kernel
theorem dX4_newRow_96 : decode cX4_newRow 96 = .ok (.invokevirtual 213, 3) := by decide +kernel
theorem dX4_newRow_99 : decode cX4_newRow 99 = .ok (.iload_n 3, 1) := by decide +kernel
theorem dX4_newRow_100 : decode cX4_newRow 100 = .ok (.invokevirtual 250, 3) := by decide +kernel
theorem dX4_newRow_103 : decode cX4_newRow 103 = .ok (.iastore, 1) := by decide +kernel
theorem dX4_newRow_104 : decode cX4_newRow 104 = .ok (.getstatic 84, 3) := by decide +kernel
theorem dX4_newRow_107 : decode cX4_newRow 107 = .ok (.areturn, 1) := by decide +kernel
theorem dX4_putPlace_0 : decode cX4_putPlace 0 = .ok (.aload_n 1, 1) := by decide +kernel
theorem dX4_putPlace_1 : decode cX4_putPlace 1 = .ok (.getfield 198, 3) := by decide +kernel
theorem dX4_putPlace_4 : decode cX4_putPlace 4 = .ok (.aload_n 2, 1) := by decide +kernel
theorem dX4_putPlace_5 : decode cX4_putPlace 5 = .ok (.invokevirtual 210, 3) := by decide +kernel
theorem dX4_putPlace_8 : decode cX4_putPlace 8 = .ok (.iaload, 1) := by decide +kernel
theorem dX4_putPlace_9 : decode cX4_putPlace 9 = .ok (.istore_n 3, 1) := by decide +kernel
theorem dX4_putPlace_10 : decode cX4_putPlace 10 = .ok (.aload_n 1, 1) := by decide +kernel
theorem dX4_putPlace_11 : decode cX4_putPlace 11 = .ok (.getfield 176, 3) := by decide +kernel
theorem dX4_putPlace_14 : decode cX4_putPlace 14 = .ok (.aload_n 2, 1) := by decide +kernel
theorem dX4_putPlace_15 : decode cX4_putPlace 15 = .ok (.invokevirtual 247, 3) := by decide +kernel
theorem dX4_putPlace_18 : decode cX4_putPlace 18 = .ok (.iaload, 1) := by decide +kernel
theorem dX4_putPlace_19 : decode cX4_putPlace 19 = .ok (.istore 4, 2) := by decide +kernel
theorem dX4_putPlace_21 : decode cX4_putPlace 21 = .ok (.aload_n 0, 1) := by decide +kernel
theorem dX4_putPlace_22 : decode cX4_putPlace 22 = .ok (.getfield 34, 3) := by decide +kernel
theorem dX4_putPlace_25 : decode cX4_putPlace 25 = .ok (.iload_n 3, 1) := by decide +kernel
theorem dX4_putPlace_26 : decode cX4_putPlace 26 = .ok (.aload_n 2, 1) := by decide +kernel
theorem dX4_putPlace_27 : decode cX4_putPlace 27 = .ok (.invokevirtual 213, 3) := by decide +kernel
theorem dX4_putPlace_30 : decode cX4_putPlace 30 = .ok (.iload 4, 2) := by decide +kernel
theorem dX4_putPlace_32 : decode cX4_putPlace 32 = .ok (.invokevirtual 253, 3) := by decide +kernel
theorem dX4_putPlace_35 : decode cX4_putPlace 35 = .ok (.istore 5, 2) := by decide +kernel
theorem dX4_putPlace_37 : decode cX4_putPlace 37 = .ok (.iload 5, 2) := by decide +kernel
theorem dX4_putPlace_39 : decode cX4_putPlace 39 = .ok (.ifCond .eq 10, 3) := by decide +kernel
theorem dX4_putPlace_42 : decode cX4_putPlace 42 = .ok (.aload_n 0, 1) := by decide +kernel
theorem dX4_putPlace_43 : decode cX4_putPlace 43 = .ok (.iload 5, 2) := by decide +kernel
theorem dX4_putPlace_45 : decode cX4_putPlace 45 = .ok (.invokevirtual 94, 3) := by decide +kernel
theorem dX4_putPlace_48 : decode cX4_putPlace 48 = .ok (.areturn, 1) := by decide +kernel
theorem dX4_putPlace_49 : decode cX4_putPlace 49 = .ok (.aload_n 0, 1) := by decide +kernel
theorem dX4_putPlace_50 : decode cX4_putPlace 50 = .ok (.getfield 34, 3) := by decide +kernel
theorem dX4_putPlace_53 : decode cX4_putPlace 53 = .ok (.iload_n 3, 1) := by decide +kernel
theorem dX4_putPlace_54 : decode cX4_putPlace 54 = .ok (.iload 4, 2) := by decide +kernel
theorem dX4_putPlace_56 : decode cX4_putPlace 56 = .ok (.aload_n 1, 1) := by decide +kernel
theorem dX4_putPlace_57 : decode cX4_putPlace 57 = .ok (.getfield 176, 3) := by decide +kernel
theorem dX4_putPlace_60 : decode cX4_putPlace 60 = .ok (.aload_n 2, 1) := by decide +kernel
theorem dX4_putPlace_61 : decode cX4_putPlace 61 = .ok (.invokevirtual 257, 3) := by decide +kernel
theorem dX4_putPlace_64 : decode cX4_putPlace 64 = .ok (.iaload, 1) := by decide +kernel
theorem dX4_putPlace_65 : decode cX4_putPlace 65 = .ok (.invokevirtual 260, 3) := by decide +kernel
theorem dX4_putPlace_68 : decode cX4_putPlace 68 = .ok (.getstatic 84, 3) := by decide +kernel
theorem dX4_putPlace_71 : decode cX4_putPlace 71 = .ok (.areturn, 1) := by decide +kernel
theorem dX4_getPlace_0 : decode cX4_getPlace 0 = .ok (.aload_n 1, 1) := by decide +kernel
theorem dX4_getPlace_1 : decode cX4_getPlace 1 = .ok (.getfield 198, 3) := by decide +kernel
theorem dX4_getPlace_4 : decode cX4_getPlace 4 = .ok (.aload_n 2, 1) := by decide +kernel
theorem dX4_getPlace_5 : decode cX4_getPlace 5 = .ok (.invokevirtual 213, 3) := by decide +kernel
theorem dX4_getPlace_8 : decode cX4_getPlace 8 = .ok (.iaload, 1) := by decide +kernel
theorem dX4_getPlace_9 : decode cX4_getPlace 9 = .ok (.istore_n 3, 1) := by decide +kernel
theorem dX4_getPlace_10 : decode cX4_getPlace 10 = .ok (.aload_n 1, 1) := by decide +kernel
theorem dX4_getPlace_11 : decode cX4_getPlace 11 = .ok (.getfield 176, 3) := by decide +kernel
theorem dX4_getPlace_14 : decode cX4_getPlace 14 = .ok (.aload_n 2, 1) := by decide +kernel
theorem dX4_getPlace_15 : decode cX4_getPlace 15 = .ok (.invokevirtual 257, 3) := by decide +kernel
theorem dX4_getPlace_18 : decode cX4_getPlace 18 = .ok (.iaload, 1) := by decide +kernel
theorem dX4_getPlace_19 : decode cX4_getPlace 19 = .ok (.istore 4, 2) := by decide +kernel
theorem dX4_getPlace_21 : decode cX4_getPlace 21 = .ok (.aload_n 0, 1) := by decide +kernel
theorem dX4_getPlace_22 : decode cX4_getPlace 22 = .ok (.getfield 34, 3) := by decide +kernel
theorem dX4_getPlace_25 : decode cX4_getPlace 25 = .ok (.iload_n 3, 1) := by decide +kernel
theorem dX4_getPlace_26 : decode cX4_getPlace 26 = .ok (.aload_n 2, 1) := by decide +kernel
theorem dX4_getPlace_27 : decode cX4_getPlace 27 = .ok (.invokevirtual 247, 3) := by decide +kernel
theorem dX4_getPlace_30 : decode cX4_getPlace 30 = .ok (.iload 4, 2) := by decide +kernel
theorem dX4_getPlace_32 : decode cX4_getPlace 32 = .ok (.invokevirtual 253, 3) := by decide +kernel
theorem dX4_getPlace_35 : decode cX4_getPlace 35 = .ok (.istore 5, 2) := by decide +kernel
theorem dX4_getPlace_37 : decode cX4_getPlace 37 = .ok (.iload 5, 2) := by decide +kernel
theorem dX4_getPlace_39 : decode cX4_getPlace 39 = .ok (.ifCond .eq 12, 3) := by decide +kernel
theorem dX4_getPlace_42 : decode cX4_getPlace 42 = .ok (.aload_n 0, 1) := by decide +kernel
theorem dX4_getPlace_43 : decode cX4_getPlace 43 = .ok (.iload 5, 2) := by decide +kernel
theorem dX4_getPlace_45 : decode cX4_getPlace 45 = .ok (.invokevirtual 94, 3) := by decide +kernel
theorem dX4_getPlace_48 : decode cX4_getPlace 48 = .ok (.goto 22, 3) := by decide +kernel
theorem dX4_getPlace_51 : decode cX4_getPlace 51 = .ok (.aload_n 0, 1) := by decide +kernel
theorem dX4_getPlace_52 : decode cX4_getPlace 52 = .ok (.aload_n 1, 1) := by decide +kernel
theorem dX4_getPlace_53 : decode cX4_getPlace 53 = .ok (.aload_n 2, 1) := by decide +kernel
theorem dX4_getPlace_54 : decode cX4_getPlace 54 = .ok (.invokevirtual 210, 3) := by decide +kernel
theorem dX4_getPlace_57 : decode cX4_getPlace 57 = .ok (.aload_n 0, 1) := by decide +kernel
theorem dX4_getPlace_58 : decode cX4_getPlace 58 = .ok (.getfield 34, 3) := by decide +kernel
theorem dX4_getPlace_61 : decode cX4_getPlace 61 = .ok (.iload_n 3, 1) := by decide +kernel
theorem dX4_getPlace_62 : decode cX4_getPlace 62 = .ok (.iload 4, 2) := by decide +kernel
theorem dX4_getPlace_64 : decode cX4_getPlace 64 = .ok (.invokevirtual 263, 3) := by decide +kernel
theorem dX4_getPlace_67 : decode cX4_getPlace 67 = .ok (.invokevirtual 216, 3) := by decide +kernel
theorem dX4_getPlace_70 : decode cX4_getPlace 70 = .ok (.areturn, 1) := by decide +kernel
theorem dX4_tellSize_0 : decode cX4_tellSize 0 = .ok (.aload_n 0, 1) := by decide +kernel
theorem dX4_tellSize_1 : decode cX4_tellSize 1 = .ok (.getfield 34, 3) := by decide +kernel
theorem dX4_tellSize_4 : decode cX4_tellSize 4 = .ok (.aload_n 1, 1) := by decide +kernel
theorem dX4_tellSize_5 : decode cX4_tellSize 5 = .ok (.getfield 198, 3) := by decide +kernel
theorem dX4_tellSize_8 : decode cX4_tellSize 8 = .ok (.aload_n 2, 1) := by decide +kernel
theorem dX4_tellSize_9 : decode cX4_tellSize 9 = .ok (.invokevirtual 213, 3) := by decide +kernel
theorem dX4_tellSize_12 : decode cX4_tellSize 12 = .ok (.iaload, 1) := by decide +kernel
theorem dX4_tellSize_13 : decode cX4_tellSize 13 = .ok (.invokevirtual 265, 3) := by decide +kernel
theorem dX4_tellSize_16 : decode cX4_tellSize 16 = .ok (.istore_n 3, 1) := by decide +kernel
theorem dX4_tellSize_17 : decode cX4_tellSize 17 = .ok (.iload_n 3, 1) := by decide +kernel
theorem dX4_tellSize_18 : decode cX4_tellSize 18 = .ok (.bipush (-3), 2) := by decide +kernel
theorem dX4_tellSize_20 : decode cX4_tellSize 20 = .ok (.if_icmp .ne 11, 3) := by decide +kernel
theorem dX4_tellSize_23 : decode cX4_tellSize 23 = .ok (.aload_n 0, 1) := by decide +kernel
theorem dX4_tellSize_24 : decode cX4_tellSize 24 = .ok (.iconst 2, 1) := by decide +kernel
theorem dX4_tellSize_25 : decode cX4_tellSize 25 = .ok (.invokevirtual 94, 3) := by decide +kernel
theorem dX4_tellSize_28 : decode cX4_tellSize 28 = .ok (.goto 13, 3) := by decide +kernel
theorem dX4_tellSize_31 : decode cX4_tellSize 31 = .ok (.aload_n 0, 1) := by decide +kernel
theorem dX4_tellSize_32 : decode cX4_tellSize 32 = .ok (.aload_n 1, 1) := by decide +kernel
theorem dX4_tellSize_33 : decode cX4_tellSize 33 = .ok (.aload_n 2, 1) := by decide +kernel
theorem dX4_tellSize_34 : decode cX4_tellSize 34 = .ok (.invokevirtual 210, 3) := by decide +kernel
theorem dX4_tellSize_37 : decode cX4_tellSize 37 = .ok (.iload_n 3, 1) := by decide +kernel
theorem dX4_tellSize_38 : decode cX4_tellSize 38 = .ok (.invokevirtual 216, 3) := by decide +kernel
theorem dX4_tellSize_41 : decode cX4_tellSize 41 = .ok (.areturn, 1) := by decide +kernel
theorem dX4_copyPlaces_0 : decode cX4_copyPlaces 0 = .ok (.aload_n 1, 1) := by decide +kernel
theorem dX4_copyPlaces_1 : decode cX4_copyPlaces 1 = .ok (.getfield 198, 3) := by decide +kernel
theorem dX4_copyPlaces_4 : decode cX4_copyPlaces 4 = .ok (.aload_n 2, 1) := by decide +kernel
theorem dX4_copyPlaces_5 : decode cX4_copyPlaces 5 = .ok (.invokevirtual 210, 3) := by decide +kernel
theorem dX4_copyPlaces_8 : decode cX4_copyPlaces 8 = .ok (.iaload, 1) := by decide +kernel
theorem dX4_copyPlaces_9 : decode cX4_copyPlaces 9 = .ok (.istore_n 3, 1) := by decide +kernel
theorem dX4_copyPlaces_10 : decode cX4_copyPlaces 10 = .ok (.aload_n 1, 1) := by decide +kernel
theorem dX4_copyPlaces_11 : decode cX4_copyPlaces 11 = .ok (.getfield 198, 3) := by decide +kernel
theorem dX4_copyPlaces_14 : decode cX4_copyPlaces 14 = .ok (.aload_n 2, 1) := by decide +kernel
theorem dX4_copyPlaces_15 : decode cX4_copyPlaces 15 = .ok (.invokevirtual 213, 3) := by decide +kernel
theorem dX4_copyPlaces_18 : decode cX4_copyPlaces 18 = .ok (.iaload, 1) := by decide +kernel
theorem dX4_copyPlaces_19 : decode cX4_copyPlaces 19 = .ok (.istore 4, 2) := by decide +kernel
theorem dX4_copyPlaces_21 : decode cX4_copyPlaces 21 = .ok (.aload_n 1, 1) := by decide +kernel
theorem dX4_copyPlaces_22 : decode cX4_copyPlaces 22 = .ok (.getfield 176, 3) := by decide +kernel
theorem dX4_copyPlaces_25 : decode cX4_copyPlaces 25 = .ok (.aload_n 2, 1) := by decide +kernel
theorem dX4_copyPlaces_26 : decode cX4_copyPlaces 26 = .ok (.invokevirtual 247, 3) := by decide +kernel
theorem dX4_copyPlaces_29 : decode cX4_copyPlaces 29 = .ok (.iaload, 1) := by decide +kernel
theorem dX4_copyPlaces_30 : decode cX4_copyPlaces 30 = .ok (.istore 5, 2) := by decide +kernel
theorem dX4_copyPlaces_32 : decode cX4_copyPlaces 32 = .ok (.aload_n 0, 1) := by decide +kernel
theorem dX4_copyPlaces_33 : decode cX4_copyPlaces 33 = .ok (.getfield 34, 3) := by decide +kernel
theorem dX4_copyPlaces_36 : decode cX4_copyPlaces 36 = .ok (.iload_n 3, 1) := by decide +kernel
theorem dX4_copyPlaces_37 : decode cX4_copyPlaces 37 = .ok (.iload 4, 2) := by decide +kernel
theorem dX4_copyPlaces_39 : decode cX4_copyPlaces 39 = .ok (.iload 5, 2) := by decide +kernel
theorem dX4_copyPlaces_41 : decode cX4_copyPlaces 41 = .ok (.invokevirtual 268, 3) := by decide +kernel
theorem dX4_copyPlaces_44 : decode cX4_copyPlaces 44 = .ok (.istore 6, 2) := by decide +kernel
theorem dX4_copyPlaces_46 : decode cX4_copyPlaces 46 = .ok (.iload 6, 2) := by decide +kernel
theorem dX4_copyPlaces_48 : decode cX4_copyPlaces 48 = .ok (.ifCond .eq 10, 3) := by decide +kernel
theorem dX4_copyPlaces_51 : decode cX4_copyPlaces 51 = .ok (.aload_n 0, 1) := by decide +kernel
theorem dX4_copyPlaces_52 : decode cX4_copyPlaces 52 = .ok (.iload 6, 2) := by decide +kernel
theorem dX4_copyPlaces_54 : decode cX4_copyPlaces 54 = .ok (.invokevirtual 94, 3) := by decide +kernel
theorem dX4_copyPlaces_57 : decode cX4_copyPlaces 57 = .ok (.areturn, 1) := by decide +kernel
theorem dX4_copyPlaces_58 : decode cX4_copyPlaces 58 = .ok (.aload_n 0, 1) := by decide +kernel
theorem dX4_copyPlaces_59 : decode cX4_copyPlaces 59 = .ok (.getfield 34, 3) := by decide +kernel
theorem dX4_copyPlaces_62 : decode cX4_copyPlaces 62 = .ok (.iload_n 3, 1) := by decide +kernel
theorem dX4_copyPlaces_63 : decode cX4_copyPlaces 63 = .ok (.iload 4, 2) := by decide +kernel
theorem dX4_copyPlaces_65 : decode cX4_copyPlaces 65 = .ok (.iload 5, 2) := by decide +kernel
theorem dX4_copyPlaces_67 : decode cX4_copyPlaces 67 = .ok (.invokevirtual 271, 3) := by decide +kernel
theorem dX4_copyPlaces_70 : decode cX4_copyPlaces 70 = .ok (.getstatic 84, 3) := by decide +kernel
theorem dX4_copyPlaces_73 : decode cX4_copyPlaces 73 = .ok (.areturn, 1) := by decide +kernel
theorem dX4_callMethod_0 : decode cX4_callMethod 0 = .ok (.aload_n 0, 1) := by decide +kernel
theorem dX4_callMethod_1 : decode cX4_callMethod 1 = .ok (.aload_n 2, 1) := by decide +kernel
theorem dX4_callMethod_2 : decode cX4_callMethod 2 = .ok (.invokevirtual 213, 3) := by decide +kernel
theorem dX4_callMethod_5 : decode cX4_callMethod 5 = .ok (.aload_n 1, 1) := by decide +kernel
theorem dX4_callMethod_6 : decode cX4_callMethod 6 = .ok (.getfield 176, 3) := by decide +kernel
theorem dX4_callMethod_9 : decode cX4_callMethod 9 = .ok (.aload_n 2, 1) := by decide +kernel
theorem dX4_callMethod_10 : decode cX4_callMethod 10 = .ok (.invokevirtual 257, 3) := by decide +kernel
theorem dX4_callMethod_13 : decode cX4_callMethod 13 = .ok (.iaload, 1) := by decide +kernel
theorem dX4_callMethod_14 : decode cX4_callMethod 14 = .ok (.aload_n 1, 1) := by decide +kernel
theorem dX4_callMethod_15 : decode cX4_callMethod 15 = .ok (.getfield 198, 3) := by decide +kernel
theorem dX4_callMethod_18 : decode cX4_callMethod 18 = .ok (.aload_n 2, 1) := by decide +kernel
theorem dX4_callMethod_19 : decode cX4_callMethod 19 = .ok (.invokevirtual 247, 3) := by decide +kernel
theorem dX4_callMethod_22 : decode cX4_callMethod 22 = .ok (.iaload, 1) := by decide +kernel
theorem dX4_callMethod_23 : decode cX4_callMethod 23 = .ok (.iload_n 3, 1) := by decide +kernel
theorem dX4_callMethod_24 : decode cX4_callMethod 24 = .ok (.iconst 1, 1) := by decide +kernel
theorem dX4_callMethod_25 : decode cX4_callMethod 25 = .ok (.iadd, 1) := by decide +kernel
theorem dX4_callMethod_26 : decode cX4_callMethod 26 = .ok (.invokevirtual 55, 3) := by decide +kernel
theorem dX4_callMethod_29 : decode cX4_callMethod 29 = .ok (.astore 4, 2) := by decide +kernel
theorem dX4_callMethod_31 : decode cX4_callMethod 31 = .ok (.aload 4, 2) := by decide +kernel
theorem dX4_callMethod_33 : decode cX4_callMethod 33 = .ok (.getstatic 59, 3) := by decide +kernel
theorem dX4_callMethod_36 : decode cX4_callMethod 36 = .ok (.if_acmp .ne 19, 3) := by decide +kernel
theorem dX4_callMethod_39 : decode cX4_callMethod 39 = .ok (.aload_n 0, 1) := by decide +kernel
theorem dX4_callMethod_40 : decode cX4_callMethod 40 = .ok (.aload_n 1, 1) := by decide +kernel
theorem dX4_callMethod_41 : decode cX4_callMethod 41 = .ok (.aload_n 2, 1) := by decide +kernel
theorem dX4_callMethod_42 : decode cX4_callMethod 42 = .ok (.invokevirtual 210, 3) := by decide +kernel
theorem dX4_callMethod_45 : decode cX4_callMethod 45 = .ok (.aload_n 0, 1) := by decide +kernel
theorem dX4_callMethod_46 : decode cX4_callMethod 46 = .ok (.getfield 65, 3) := by decide +kernel
theorem dX4_callMethod_49 : decode cX4_callMethod 49 = .ok (.invokevirtual 216, 3) := by decide +kernel
theorem dX4_callMethod_52 : decode cX4_callMethod 52 = .ok (.goto 5, 3) := by decide +kernel
theorem dX4_callMethod_55 : decode cX4_callMethod 55 = .ok (.aload 4, 2) := by decide +kernel
theorem dX4_callMethod_57 : decode cX4_callMethod 57 = .ok (.areturn, 1) := by decide +kernel
theorem dX5_init_0 : decode cX5_init 0 = .ok (.aload_n 0, 1) := by decide +kernel
theorem dX5_init_1 : decode cX5_init 1 = .ok (.invokespecial 1, 3) := by decide +kernel
theorem dX5_init_4 : decode cX5_init 4 = .ok (.return_, 1) := by decide +kernel
theorem dX5_begin_0 : decode cX5_begin 0 = .ok (.aload_n 0, 1) := by decide +kernel
theorem dX5_begin_1 : decode cX5_begin 1 = .ok (.iload_n 1, 1) := by decide +kernel
theorem dX5_begin_2 : decode cX5_begin 2 = .ok (.putfield 7, 3) := by decide +kernel
theorem dX5_begin_5 : decode cX5_begin 5 = .ok (.aload_n 0, 1) := by decide +kernel
theorem dX5_begin_6 : decode cX5_begin 6 = .ok (.iload_n 2, 1) := by decide +kernel
theorem dX5_begin_7 : decode cX5_begin 7 = .ok (.putfield 13, 3) := by decide +kernel
theorem dX5_begin_10 : decode cX5_begin 10 = .ok (.aload_n 0, 1) := by decide +kernel
theorem dX5_begin_11 : decode cX5_begin 11 = .ok (.iconst 0, 1) := by decide +kernel
theorem dX5_begin_12 : decode cX5_begin 12 = .ok (.putfield 16, 3) := by decide +kernel
theorem dX5_begin_15 : decode cX5_begin 15 = .ok (.aload_n 0, 1) := by decide +kernel
theorem dX5_begin_16 : decode cX5_begin 16 = .ok (.iconst 0, 1) := by decide +kernel
theorem dX5_begin_17 : decode cX5_begin 17 = .ok (.putfield 19, 3) := by decide +kernel
theorem dX5_begin_20 : decode cX5_begin 20 = .ok (.aload_n 0, 1) := by decide +kernel
theorem dX5_begin_21 : decode cX5_begin 21 = .ok (.iconst 0, 1) := by decide +kernel
theorem dX5_begin_22 : decode cX5_begin 22 = .ok (.putfield 22, 3) := by decide +kernel
theorem dX5_begin_25 : decode cX5_begin 25 = .ok (.aload_n 0, 1) := by decide +kernel
theorem dX5_begin_26 : decode cX5_begin 26 = .ok (.iconst 0, 1) := by decide +kernel
theorem dX5_begin_27 : decode cX5_begin 27 = .ok (.putfield 25, 3) := by decide +kernel
theorem dX5_begin_30 : decode cX5_begin 30 = .ok (.aload_n 0, 1) := by decide +kernel
theorem dX5_begin_31 : decode cX5_begin 31 = .ok (.iconst 0, 1) := by decide +kernel
theorem dX5_begin_32 : decode cX5_begin 32 = .ok (.putfield 29, 3) := by decide +kernel
theorem dX5_begin_35 : decode cX5_begin 35 = .ok (.return_, 1) := by decide +kernel
theorem dX5_count_0 : decode cX5_count 0 = .ok (.aload_n 0, 1) := by decide +kernel
theorem dX5_count_1 : decode cX5_count 1 = .ok (.getfield 25, 3) := by decide +kernel
theorem dX5_count_4 : decode cX5_count 4 = .ok (.ifCond .eq 10, 3) := by decide +kernel
theorem dX5_count_7 : decode cX5_count 7 = .ok (.aload_n 0, 1) := by decide +kernel
theorem dX5_count_8 : decode cX5_count 8 = .ok (.getfield 19, 3) := by decide +kernel
theorem dX5_count_11 : decode cX5_count 11 = .ok (.goto 7, 3) := by decide +kernel
theorem dX5_count_14 : decode cX5_count 14 = .ok (.aload_n 0, 1) := by decide +kernel
theorem dX5_count_15 : decode cX5_count 15 = .ok (.getfield 16, 3) := by decide +kernel
theorem dX5_count_18 : decode cX5_count 18 = .ok (.istore_n 2, 1) := by decide +kernel
theorem dX5_count_19 : decode cX5_count 19 = .ok (.iload_n 2, 1) := by decide +kernel
theorem dX5_count_20 : decode cX5_count 20 = .ok (.iload_n 1, 1) := by decide +kernel
theorem dX5_count_21 : decode cX5_count 21 = .ok (.iadd, 1) := by decide +kernel
theorem dX5_count_22 : decode cX5_count 22 = .ok (.aload_n 0, 1) := by decide +kernel
theorem dX5_count_23 : decode cX5_count 23 = .ok (.getfield 25, 3) := by decide +kernel
theorem dX5_count_26 : decode cX5_count 26 = .ok (.ifCond .eq 10, 3) := by decide +kernel
theorem dX5_count_29 : decode cX5_count 29 = .ok (.aload_n 0, 1) := by decide +kernel
theorem dX5_count_30 : decode cX5_count 30 = .ok (.getfield 13, 3) := by decide +kernel
theorem dX5_count_33 : decode cX5_count 33 = .ok (.goto 7, 3) := by decide +kernel
theorem dX5_count_36 : decode cX5_count 36 = .ok (.aload_n 0, 1) := by decide +kernel
theorem dX5_count_37 : decode cX5_count 37 = .ok (.getfield 7, 3) := by decide +kernel
theorem dX5_count_40 : decode cX5_count 40 = .ok (.if_icmp .le 8, 3) := by decide +kernel
theorem dX5_count_43 : decode cX5_count 43 = .ok (.aload_n 0, 1) := by decide +kernel
theorem dX5_count_44 : decode cX5_count 44 = .ok (.invokevirtual 32, 3) := by decide +kernel
theorem dX5_count_47 : decode cX5_count 47 = .ok (.areturn, 1) := by decide +kernel
theorem dX5_count_48 : decode cX5_count 48 = .ok (.aload_n 0, 1) := by decide +kernel
theorem dX5_count_49 : decode cX5_count 49 = .ok (.getfield 25, 3) := by decide +kernel
theorem dX5_count_52 : decode cX5_count 52 = .ok (.ifCond .eq 16, 3) := by decide +kernel
theorem dX5_count_55 : decode cX5_count 55 = .ok (.aload_n 0, 1) := by decide +kernel
theorem dX5_count_56 : decode cX5_count 56 = .ok (.dup, 1) := by decide +kernel
theorem dX5_count_57 : decode cX5_count 57 = .ok (.getfield 19, 3) := by decide +kernel
theorem dX5_count_60 : decode cX5_count 60 = .ok (.iload_n 1, 1) := by decide +kernel
theorem dX5_count_61 : decode cX5_count 61 = .ok (.iadd, 1) := by decide +kernel
theorem dX5_count_62 : decode cX5_count 62 = .ok (.putfield 19, 3) := by decide +kernel
theorem dX5_count_65 : decode cX5_count 65 = .ok (.goto 13, 3) := by decide +kernel
theorem dX5_count_68 : decode cX5_count 68 = .ok (.aload_n 0, 1) := by decide +kernel
theorem dX5_count_69 : decode cX5_count 69 = .ok (.dup, 1) := by decide +kernel
theorem dX5_count_70 : decode cX5_count 70 = .ok (.getfield 16, 3) := by decide +kernel
theorem dX5_count_73 : decode cX5_count 73 = .ok (.iload_n 1, 1) := by decide +kernel
theorem dX5_count_74 : decode cX5_count 74 = .ok (.iadd, 1) := by decide +kernel
theorem dX5_count_75 : decode cX5_count 75 = .ok (.putfield 16, 3) := by decide +kernel
theorem dX5_count_78 : decode cX5_count 78 = .ok (.getstatic 36, 3) := by decide +kernel
theorem dX5_count_81 : decode cX5_count 81 = .ok (.areturn, 1) := by decide +kernel
theorem dX5_countThrow_0 : decode cX5_countThrow 0 = .ok (.aload_n 0, 1) := by decide +kernel
theorem dX5_countThrow_1 : decode cX5_countThrow 1 = .ok (.getfield 22, 3) := by decide +kernel
theorem dX5_countThrow_4 : decode cX5_countThrow 4 = .ok (.bipush 24, 2) := by decide +kernel
theorem dX5_countThrow_6 : decode cX5_countThrow 6 = .ok (.if_icmp .lt 8, 3) := by decide +kernel
theorem dX5_countThrow_9 : decode cX5_countThrow 9 = .ok (.aload_n 0, 1) := by decide +kernel
theorem dX5_countThrow_10 : decode cX5_countThrow 10 = .ok (.invokevirtual 32, 3) := by decide +kernel
theorem dX5_countThrow_13 : decode cX5_countThrow 13 = .ok (.areturn, 1) := by decide +kernel
theorem dX5_countThrow_14 : decode cX5_countThrow 14 = .ok (.aload_n 0, 1) := by decide +kernel
theorem dX5_countThrow_15 : decode cX5_countThrow 15 = .ok (.dup, 1) := by decide +kernel
theorem dX5_countThrow_16 : decode cX5_countThrow 16 = .ok (.getfield 22, 3) := by decide +kernel
theorem dX5_countThrow_19 : decode cX5_countThrow 19 = .ok (.iconst 1, 1) := by decide +kernel
theorem dX5_countThrow_20 : decode cX5_countThrow 20 = .ok (.iadd, 1) := by decide +kernel
theorem dX5_countThrow_21 : decode cX5_countThrow 21 = .ok (.putfield 22, 3) := by decide +kernel
theorem dX5_countThrow_24 : decode cX5_countThrow 24 = .ok (.getstatic 36, 3) := by decide +kernel
theorem dX5_countThrow_27 : decode cX5_countThrow 27 = .ok (.areturn, 1) := by decide +kernel
theorem dX5_refuse_0 : decode cX5_refuse 0 = .ok (.aload_n 0, 1) := by decide +kernel
theorem dX5_refuse_1 : decode cX5_refuse 1 = .ok (.getfield 25, 3) := by decide +kernel
theorem dX5_refuse_4 : decode cX5_refuse 4 = .ok (.ifCond .eq 12, 3) := by decide +kernel
theorem dX5_refuse_7 : decode cX5_refuse 7 = .ok (.aload_n 0, 1) := by decide +kernel
theorem dX5_refuse_8 : decode cX5_refuse 8 = .ok (.iconst 1, 1) := by decide +kernel
theorem dX5_refuse_9 : decode cX5_refuse 9 = .ok (.putfield 29, 3) := by decide +kernel
theorem dX5_refuse_12 : decode cX5_refuse 12 = .ok (.getstatic 42, 3) := by decide +kernel
theorem dX5_refuse_15 : decode cX5_refuse 15 = .ok (.areturn, 1) := by decide +kernel
theorem dX5_refuse_16 : decode cX5_refuse 16 = .ok (.aload_n 0, 1) := by decide +kernel
theorem dX5_refuse_17 : decode cX5_refuse 17 = .ok (.iconst 1, 1) := by decide +kernel
theorem dX5_refuse_18 : decode cX5_refuse 18 = .ok (.putfield 25, 3) := by decide +kernel
theorem dX5_refuse_21 : decode cX5_refuse 21 = .ok (.getstatic 45, 3) := by decide +kernel
theorem dX5_refuse_24 : decode cX5_refuse 24 = .ok (.areturn, 1) := by decide +kernel
theorem dX6_init_0 : decode cX6_init 0 = .ok (.aload_n 0, 1) := by decide +kernel
theorem dX6_init_1 : decode cX6_init 1 = .ok (.invokespecial 3, 3) := by decide +kernel
theorem dX6_init_4 : decode cX6_init 4 = .ok (.aload_n 0, 1) := by decide +kernel
theorem dX6_init_5 : decode cX6_init 5 = .ok (.new 9, 3) := by decide +kernel
theorem dX6_init_8 : decode cX6_init 8 = .ok (.dup, 1) := by decide +kernel
theorem dX6_init_9 : decode cX6_init 9 = .ok (.invokespecial 11, 3) := by decide +kernel
theorem dX6_init_12 : decode cX6_init 12 = .ok (.putfield 12, 3) := by decide +kernel
theorem dX6_init_15 : decode cX6_init 15 = .ok (.aload_n 0, 1) := by decide +kernel
theorem dX6_init_16 : decode cX6_init 16 = .ok (.new 9, 3) := by decide +kernel
theorem dX6_init_19 : decode cX6_init 19 = .ok (.dup, 1) := by decide +kernel
theorem dX6_init_20 : decode cX6_init 20 = .ok (.invokespecial 11, 3) := by decide +kernel
theorem dX6_init_23 : decode cX6_init 23 = .ok (.putfield 18, 3) := by decide +kernel
theorem dX6_init_26 : decode cX6_init 26 = .ok (.aload_n 0, 1) := by decide +kernel
theorem dX6_init_27 : decode cX6_init 27 = .ok (.new 9, 3) := by decide +kernel
theorem dX6_init_30 : decode cX6_init 30 = .ok (.dup, 1) := by decide +kernel
theorem dX6_init_31 : decode cX6_init 31 = .ok (.invokespecial 11, 3) := by decide +kernel
theorem dX6_init_34 : decode cX6_init 34 = .ok (.putfield 21, 3) := by decide +kernel
theorem dX6_init_37 : decode cX6_init 37 = .ok (.return_, 1) := by decide +kernel
theorem dX6_forget_0 : decode cX6_forget 0 = .ok (.aload_n 0, 1) := by decide +kernel
theorem dX6_forget_1 : decode cX6_forget 1 = .ok (.getfield 12, 3) := by decide +kernel
theorem dX6_forget_4 : decode cX6_forget 4 = .ok (.invokevirtual 24, 3) := by decide +kernel
theorem dX6_forget_7 : decode cX6_forget 7 = .ok (.aload_n 0, 1) := by decide +kernel
theorem dX6_forget_8 : decode cX6_forget 8 = .ok (.getfield 18, 3) := by decide +kernel
theorem dX6_forget_11 : decode cX6_forget 11 = .ok (.invokevirtual 24, 3) := by decide +kernel
theorem dX6_forget_14 : decode cX6_forget 14 = .ok (.aload_n 0, 1) := by decide +kernel
theorem dX6_forget_15 : decode cX6_forget 15 = .ok (.getfield 21, 3) := by decide +kernel
theorem dX6_forget_18 : decode cX6_forget 18 = .ok (.invokevirtual 24, 3) := by decide +kernel
theorem dX6_forget_21 : decode cX6_forget 21 = .ok (.return_, 1) := by decide +kernel
theorem dX6_guardFor_0 : decode cX6_guardFor 0 = .ok (.iconst 0, 1) := by decide +kernel
theorem dX6_guardFor_1 : decode cX6_guardFor 1 = .ok (.istore_n 3, 1) := by decide +kernel
theorem dX6_guardFor_2 : decode cX6_guardFor 2 = .ok (.iload_n 3, 1) := by decide +kernel
theorem dX6_guardFor_3 : decode cX6_guardFor 3 = .ok (.aload_n 0, 1) := by decide +kernel
theorem dX6_guardFor_4 : decode cX6_guardFor 4 = .ok (.getfield 18, 3) := by decide +kernel
theorem dX6_guardFor_7 : decode cX6_guardFor 7 = .ok (.invokevirtual 27, 3) := by decide +kernel
theorem dX6_guardFor_10 : decode cX6_guardFor 10 = .ok (.if_icmp .ge 30, 3) := by decide +kernel
theorem dX6_guardFor_13 : decode cX6_guardFor 13 = .ok (.aload_n 0, 1) := by decide +kernel
theorem dX6_guardFor_14 : decode cX6_guardFor 14 = .ok (.getfield 18, 3) := by decide +kernel
theorem dX6_guardFor_17 : decode cX6_guardFor 17 = .ok (.iload_n 3, 1) := by decide +kernel
theorem dX6_guardFor_18 : decode cX6_guardFor 18 = .ok (.invokevirtual 31, 3) := by decide +kernel
theorem dX6_guardFor_21 : decode cX6_guardFor 21 = .ok (.checkcast 35, 3) := by decide +kernel
theorem dX6_guardFor_24 : decode cX6_guardFor 24 = .ok (.iload_n 1, 1) := by decide +kernel
theorem dX6_guardFor_25 : decode cX6_guardFor 25 = .ok (.iload_n 2, 1) := by decide +kernel
theorem dX6_guardFor_26 : decode cX6_guardFor 26 = .ok (.invokevirtual 37, 3) := by decide +kernel
theorem dX6_guardFor_29 : decode cX6_guardFor 29 = .ok (.ifCond .eq 5, 3) := by decide +kernel
theorem dX6_guardFor_32 : decode cX6_guardFor 32 = .ok (.iload_n 3, 1) := by decide +kernel
theorem dX6_guardFor_33 : decode cX6_guardFor 33 = .ok (.ireturn, 1) := by decide +kernel
theorem dX6_guardFor_34 : decode cX6_guardFor 34 = .ok (.iinc 3 1, 3) := by decide +kernel
theorem dX6_guardFor_37 : decode cX6_guardFor 37 = .ok (.goto (-35), 3) := by decide +kernel
theorem dX6_guardFor_40 : decode cX6_guardFor 40 = .ok (.bipush (-3), 2) := by decide +kernel
theorem dX6_guardFor_42 : decode cX6_guardFor 42 = .ok (.ireturn, 1) := by decide +kernel
theorem dX8_init_0 : decode cX8_init 0 = .ok (.aload_n 0, 1) := by decide +kernel
theorem dX8_init_1 : decode cX8_init 1 = .ok (.invokespecial 3, 3) := by decide +kernel
theorem dX8_init_4 : decode cX8_init 4 = .ok (.aload_n 0, 1) := by decide +kernel
theorem dX8_init_5 : decode cX8_init 5 = .ok (.sipush 300, 3) := by decide +kernel
theorem dX8_init_8 : decode cX8_init 8 = .ok (.newarray .int, 2) := by decide +kernel
theorem dX8_init_10 : decode cX8_init 10 = .ok (.putfield 11, 3) := by decide +kernel
theorem dX8_init_13 : decode cX8_init 13 = .ok (.return_, 1) := by decide +kernel
theorem dX8_begin_0 : decode cX8_begin 0 = .ok (.aload_n 0, 1) := by decide +kernel
theorem dX8_begin_1 : decode cX8_begin 1 = .ok (.iconst 0, 1) := by decide +kernel
theorem dX8_begin_2 : decode cX8_begin 2 = .ok (.putfield 15, 3) := by decide +kernel
theorem dX8_begin_5 : decode cX8_begin 5 = .ok (.aload_n 0, 1) := by decide +kernel
theorem dX8_begin_6 : decode cX8_begin 6 = .ok (.iconst 0, 1) := by decide +kernel
theorem dX8_begin_7 : decode cX8_begin 7 = .ok (.putfield 19, 3) := by decide +kernel
theorem dX8_begin_10 : decode cX8_begin 10 = .ok (.aload_n 0, 1) := by decide +kernel
theorem dX8_begin_11 : decode cX8_begin 11 = .ok (.iconst 0, 1) := by decide +kernel
theorem dX8_begin_12 : decode cX8_begin 12 = .ok (.putfield 22, 3) := by decide +kernel
theorem dX8_begin_15 : decode cX8_begin 15 = .ok (.aload_n 0, 1) := by decide +kernel
theorem dX8_begin_16 : decode cX8_begin 16 = .ok (.iconst 0, 1) := by decide +kernel
theorem dX8_begin_17 : decode cX8_begin 17 = .ok (.putfield 25, 3) := by decide +kernel
theorem dX8_begin_20 : decode cX8_begin 20 = .ok (.aload_n 0, 1) := by decide +kernel
theorem dX8_begin_21 : decode cX8_begin 21 = .ok (.iconst 0, 1) := by decide +kernel
theorem dX8_begin_22 : decode cX8_begin 22 = .ok (.putfield 28, 3) := by decide +kernel
theorem dX8_begin_25 : decode cX8_begin 25 = .ok (.aload_n 0, 1) := by decide +kernel
theorem dX8_begin_26 : decode cX8_begin 26 = .ok (.iconst 0, 1) := by decide +kernel
theorem dX8_begin_27 : decode cX8_begin 27 = .ok (.putfield 31, 3) := by decide +kernel
theorem dX8_begin_30 : decode cX8_begin 30 = .ok (.return_, 1) := by decide +kernel
theorem dX8_noteFrame_0 : decode cX8_noteFrame 0 = .ok (.aload_n 0, 1) := by decide +kernel
theorem dX8_noteFrame_1 : decode cX8_noteFrame 1 = .ok (.dup, 1) := by decide +kernel
theorem dX8_noteFrame_2 : decode cX8_noteFrame 2 = .ok (.getfield 22, 3) := by decide +kernel
theorem dX8_noteFrame_5 : decode cX8_noteFrame 5 = .ok (.iconst 1, 1) := by decide +kernel
theorem dX8_noteFrame_6 : decode cX8_noteFrame 6 = .ok (.iadd, 1) := by decide +kernel
theorem dX8_noteFrame_7 : decode cX8_noteFrame 7 = .ok (.putfield 22, 3) := by decide +kernel
theorem dX8_noteFrame_10 : decode cX8_noteFrame 10 = .ok (.aload_n 0, 1) := by decide +kernel
theorem dX8_noteFrame_11 : decode cX8_noteFrame 11 = .ok (.aload_n 0, 1) := by decide +kernel
theorem dX8_noteFrame_12 : decode cX8_noteFrame 12 = .ok (.getfield 31, 3) := by decide +kernel
theorem dX8_noteFrame_15 : decode cX8_noteFrame 15 = .ok (.iload_n 1, 1) := by decide +kernel
theorem dX8_noteFrame_16 : decode cX8_noteFrame 16 = .ok (.invokestatic 34, 3) := by decide +kernel
theorem dX8_noteFrame_19 : decode cX8_noteFrame 19 = .ok (.putfield 31, 3) := by decide +kernel
theorem dX8_noteFrame_22 : decode cX8_noteFrame 22 = .ok (.return_, 1) := by decide +kernel
theorem dX8_noteClean_0 : decode cX8_noteClean 0 = .ok (.aload_n 0, 1) := by decide +kernel
theorem dX8_noteClean_1 : decode cX8_noteClean 1 = .ok (.getfield 25, 3) := by decide +kernel
theorem dX8_noteClean_4 : decode cX8_noteClean 4 = .ok (.bipush 100, 2) := by decide +kernel
theorem dX8_noteClean_6 : decode cX8_noteClean 6 = .ok (.if_icmp .ge 43, 3) := by decide +kernel
theorem dX8_noteClean_9 : decode cX8_noteClean 9 = .ok (.aload_n 0, 1) := by decide +kernel
theorem dX8_noteClean_10 : decode cX8_noteClean 10 = .ok (.getfield 11, 3) := by decide +kernel
theorem dX8_noteClean_13 : decode cX8_noteClean 13 = .ok (.aload_n 0, 1) := by decide +kernel
theorem dX8_noteClean_14 : decode cX8_noteClean 14 = .ok (.getfield 25, 3) := by decide +kernel
theorem dX8_noteClean_17 : decode cX8_noteClean 17 = .ok (.iconst 3, 1) := by decide +kernel
theorem dX8_noteClean_18 : decode cX8_noteClean 18 = .ok (.imul, 1) := by decide +kernel
theorem dX8_noteClean_19 : decode cX8_noteClean 19 = .ok (.iload_n 1, 1) := by decide +kernel
theorem dX8_noteClean_20 : decode cX8_noteClean 20 = .ok (.iastore, 1) := by decide +kernel
theorem dX8_noteClean_21 : decode cX8_noteClean 21 = .ok (.aload_n 0, 1) := by decide +kernel
theorem dX8_noteClean_22 : decode cX8_noteClean 22 = .ok (.getfield 11, 3) := by decide +kernel
theorem dX8_noteClean_25 : decode cX8_noteClean 25 = .ok (.aload_n 0, 1) := by decide +kernel
theorem dX8_noteClean_26 : decode cX8_noteClean 26 = .ok (.getfield 25, 3) := by decide +kernel
theorem dX8_noteClean_29 : decode cX8_noteClean 29 = .ok (.iconst 3, 1) := by decide +kernel
theorem dX8_noteClean_30 : decode cX8_noteClean 30 = .ok (.imul, 1) := by decide +kernel
theorem dX8_noteClean_31 : decode cX8_noteClean 31 = .ok (.iconst 1, 1) := by decide +kernel
theorem dX8_noteClean_32 : decode cX8_noteClean 32 = .ok (.iadd, 1) := by decide +kernel
theorem dX8_noteClean_33 : decode cX8_noteClean 33 = .ok (.iload_n 2, 1) := by decide +kernel
theorem dX8_noteClean_34 : decode cX8_noteClean 34 = .ok (.iastore, 1) := by decide +kernel
theorem dX8_noteClean_35 : decode cX8_noteClean 35 = .ok (.aload_n 0, 1) := by decide +kernel
theorem dX8_noteClean_36 : decode cX8_noteClean 36 = .ok (.getfield 11, 3) := by decide +kernel
theorem dX8_noteClean_39 : decode cX8_noteClean 39 = .ok (.aload_n 0, 1) := by decide +kernel
theorem dX8_noteClean_40 : decode cX8_noteClean 40 = .ok (.getfield 25, 3) := by decide +kernel
theorem dX8_noteClean_43 : decode cX8_noteClean 43 = .ok (.iconst 3, 1) := by decide +kernel
theorem dX8_noteClean_44 : decode cX8_noteClean 44 = .ok (.imul, 1) := by decide +kernel
theorem dX8_noteClean_45 : decode cX8_noteClean 45 = .ok (.iconst 2, 1) := by decide +kernel
theorem dX8_noteClean_46 : decode cX8_noteClean 46 = .ok (.iadd, 1) := by decide +kernel
theorem dX8_noteClean_47 : decode cX8_noteClean 47 = .ok (.iload_n 3, 1) := by decide +kernel
theorem dX8_noteClean_48 : decode cX8_noteClean 48 = .ok (.iastore, 1) := by decide +kernel
theorem dX8_noteClean_49 : decode cX8_noteClean 49 = .ok (.aload_n 0, 1) := by decide +kernel
theorem dX8_noteClean_50 : decode cX8_noteClean 50 = .ok (.dup, 1) := by decide +kernel
theorem dX8_noteClean_51 : decode cX8_noteClean 51 = .ok (.getfield 25, 3) := by decide +kernel
theorem dX8_noteClean_54 : decode cX8_noteClean 54 = .ok (.iconst 1, 1) := by decide +kernel
theorem dX8_noteClean_55 : decode cX8_noteClean 55 = .ok (.iadd, 1) := by decide +kernel
theorem dX8_noteClean_56 : decode cX8_noteClean 56 = .ok (.putfield 25, 3) := by decide +kernel
theorem dX8_noteClean_59 : decode cX8_noteClean 59 = .ok (.return_, 1) := by decide +kernel
theorem dX8_cleanPart_0 : decode cX8_cleanPart 0 = .ok (.iload_n 1, 1) := by decide +kernel
theorem dX8_cleanPart_1 : decode cX8_cleanPart 1 = .ok (.aload_n 0, 1) := by decide +kernel
theorem dX8_cleanPart_2 : decode cX8_cleanPart 2 = .ok (.getfield 25, 3) := by decide +kernel
theorem dX8_cleanPart_5 : decode cX8_cleanPart 5 = .ok (.bipush 100, 2) := by decide +kernel
theorem dX8_cleanPart_7 : decode cX8_cleanPart 7 = .ok (.invokestatic 40, 3) := by decide +kernel
theorem dX8_cleanPart_10 : decode cX8_cleanPart 10 = .ok (.invokestatic 43, 3) := by decide +kernel
theorem dX8_cleanPart_13 : decode cX8_cleanPart 13 = .ok (.ifCond .eq 11, 3) := by decide +kernel
theorem dX8_cleanPart_16 : decode cX8_cleanPart 16 = .ok (.iload_n 2, 1) := by decide +kernel
theorem dX8_cleanPart_17 : decode cX8_cleanPart 17 = .ok (.iconst 3, 1) := by decide +kernel
theorem dX8_cleanPart_18 : decode cX8_cleanPart 18 = .ok (.invokestatic 43, 3) := by decide +kernel
theorem dX8_cleanPart_21 : decode cX8_cleanPart 21 = .ok (.ifCond .ne 6, 3) := by decide +kernel
theorem dX8_cleanPart_24 : decode cX8_cleanPart 24 = .ok (.bipush (-3), 2) := by decide +kernel
theorem dX8_cleanPart_26 : decode cX8_cleanPart 26 = .ok (.ireturn, 1) := by decide +kernel
theorem dX8_cleanPart_27 : decode cX8_cleanPart 27 = .ok (.aload_n 0, 1) := by decide +kernel
theorem dX8_cleanPart_28 : decode cX8_cleanPart 28 = .ok (.getfield 11, 3) := by decide +kernel
theorem dX8_cleanPart_31 : decode cX8_cleanPart 31 = .ok (.iload_n 1, 1) := by decide +kernel
theorem dX8_cleanPart_32 : decode cX8_cleanPart 32 = .ok (.iconst 3, 1) := by decide +kernel
theorem dX8_cleanPart_33 : decode cX8_cleanPart 33 = .ok (.imul, 1) := by decide +kernel
theorem dX8_cleanPart_34 : decode cX8_cleanPart 34 = .ok (.iload_n 2, 1) := by decide +kernel
theorem dX8_cleanPart_35 : decode cX8_cleanPart 35 = .ok (.iadd, 1) := by decide +kernel
theorem dX8_cleanPart_36 : decode cX8_cleanPart 36 = .ok (.iaload, 1) := by decide +kernel
theorem dX8_cleanPart_37 : decode cX8_cleanPart 37 = .ok (.ireturn, 1) := by decide +kernel
theorem dX9_init_0 : decode cX9_init 0 = .ok (.aload_n 0, 1) := by decide +kernel
theorem dX9_init_1 : decode cX9_init 1 = .ok (.invokespecial 5, 3) := by decide +kernel
theorem dX9_init_4 : decode cX9_init 4 = .ok (.aload_n 0, 1) := by decide +kernel
theorem dX9_init_5 : decode cX9_init 5 = .ok (.sipush 4800, 3) := by decide +kernel
theorem dX9_init_8 : decode cX9_init 8 = .ok (.newarray .int, 2) := by decide +kernel
theorem dX9_init_10 : decode cX9_init 10 = .ok (.putfield 11, 3) := by decide +kernel
theorem dX9_init_13 : decode cX9_init 13 = .ok (.aload_n 0, 1) := by decide +kernel
theorem dX9_init_14 : decode cX9_init 14 = .ok (.sipush 600, 3) := by decide +kernel
theorem dX9_init_17 : decode cX9_init 17 = .ok (.newarray .int, 2) := by decide +kernel
theorem dX9_init_19 : decode cX9_init 19 = .ok (.putfield 15, 3) := by decide +kernel
theorem dX9_init_22 : decode cX9_init 22 = .ok (.aload_n 0, 1) := by decide +kernel
theorem dX9_init_23 : decode cX9_init 23 = .ok (.sipush 600, 3) := by decide +kernel
theorem dX9_init_26 : decode cX9_init 26 = .ok (.newarray .int, 2) := by decide +kernel
theorem dX9_init_28 : decode cX9_init 28 = .ok (.putfield 18, 3) := by decide +kernel
theorem dX9_init_31 : decode cX9_init 31 = .ok (.aload_n 0, 1) := by decide +kernel
theorem dX9_init_32 : decode cX9_init 32 = .ok (.sipush 600, 3) := by decide +kernel
theorem dX9_init_35 : decode cX9_init 35 = .ok (.newarray .int, 2) := by decide +kernel
theorem dX9_init_37 : decode cX9_init 37 = .ok (.putfield 21, 3) := by decide +kernel
theorem dX9_init_40 : decode cX9_init 40 = .ok (.return_, 1) := by decide +kernel
theorem dX9_forget_0 : decode cX9_forget 0 = .ok (.aload_n 0, 1) := by decide +kernel
theorem dX9_forget_1 : decode cX9_forget 1 = .ok (.iconst 0, 1) := by decide +kernel
theorem dX9_forget_2 : decode cX9_forget 2 = .ok (.putfield 24, 3) := by decide +kernel
theorem dX9_forget_5 : decode cX9_forget 5 = .ok (.aload_n 0, 1) := by decide +kernel
theorem dX9_forget_6 : decode cX9_forget 6 = .ok (.iconst 0, 1) := by decide +kernel
theorem dX9_forget_7 : decode cX9_forget 7 = .ok (.putfield 28, 3) := by decide +kernel
theorem dX9_forget_10 : decode cX9_forget 10 = .ok (.return_, 1) := by decide +kernel
theorem dX9_add_0 : decode cX9_add 0 = .ok (.aload_n 0, 1) := by decide +kernel
theorem dX9_add_1 : decode cX9_add 1 = .ok (.getfield 24, 3) := by decide +kernel
theorem dX9_add_4 : decode cX9_add 4 = .ok (.sipush 600, 3) := by decide +kernel
theorem dX9_add_7 : decode cX9_add 7 = .ok (.if_icmp .ge 19, 3) := by decide +kernel
theorem dX9_add_10 : decode cX9_add 10 = .ok (.iload_n 2, 1) := by decide +kernel
theorem dX9_add_11 : decode cX9_add 11 = .ok (.ifCond .lt 15, 3) := by decide +kernel
theorem dX9_add_14 : decode cX9_add 14 = .ok (.iload_n 2, 1) := by decide +kernel
theorem dX9_add_15 : decode cX9_add 15 = .ok (.sipush 4800, 3) := by decide +kernel
theorem dX9_add_18 : decode cX9_add 18 = .ok (.aload_n 0, 1) := by decide +kernel
theorem dX9_add_19 : decode cX9_add 19 = .ok (.getfield 28, 3) := by decide +kernel
theorem dX9_add_22 : decode cX9_add 22 = .ok (.isub, 1) := by decide +kernel
theorem dX9_add_23 : decode cX9_add 23 = .ok (.if_icmp .le 6, 3) := by decide +kernel
theorem dX9_add_26 : decode cX9_add 26 = .ok (.bipush (-3), 2) := by decide +kernel
theorem dX9_add_28 : decode cX9_add 28 = .ok (.ireturn, 1) := by decide +kernel
theorem dX9_add_29 : decode cX9_add 29 = .ok (.aload_n 0, 1) := by decide +kernel
theorem dX9_add_30 : decode cX9_add 30 = .ok (.getfield 11, 3) := by decide +kernel
theorem dX9_add_33 : decode cX9_add 33 = .ok (.aload_n 0, 1) := by decide +kernel
theorem dX9_add_34 : decode cX9_add 34 = .ok (.getfield 28, 3) := by decide +kernel
theorem dX9_add_37 : decode cX9_add 37 = .ok (.aload_n 0, 1) := by decide +kernel
theorem dX9_add_38 : decode cX9_add 38 = .ok (.getfield 28, 3) := by decide +kernel
theorem dX9_add_41 : decode cX9_add 41 = .ok (.iload_n 2, 1) := by decide +kernel
theorem dX9_add_42 : decode cX9_add 42 = .ok (.iadd, 1) := by decide +kernel
theorem dX9_add_43 : decode cX9_add 43 = .ok (.iconst 0, 1) := by decide +kernel
theorem dX9_add_44 : decode cX9_add 44 = .ok (.invokestatic 31, 3) := by decide +kernel
theorem dX9_add_47 : decode cX9_add 47 = .ok (.aload_n 0, 1) := by decide +kernel
theorem dX9_add_48 : decode cX9_add 48 = .ok (.getfield 15, 3) := by decide +kernel
theorem dX9_add_51 : decode cX9_add 51 = .ok (.aload_n 0, 1) := by decide +kernel
theorem dX9_add_52 : decode cX9_add 52 = .ok (.getfield 24, 3) := by decide +kernel
theorem dX9_add_55 : decode cX9_add 55 = .ok (.aload_n 0, 1) := by decide +kernel
theorem dX9_add_56 : decode cX9_add 56 = .ok (.getfield 28, 3) := by decide +kernel
theorem dX9_add_59 : decode cX9_add 59 = .ok (.iastore, 1) := by decide +kernel
theorem dX9_add_60 : decode cX9_add 60 = .ok (.aload_n 0, 1) := by decide +kernel
theorem dX9_add_61 : decode cX9_add 61 = .ok (.getfield 18, 3) := by decide +kernel
theorem dX9_add_64 : decode cX9_add 64 = .ok (.aload_n 0, 1) := by decide +kernel
theorem dX9_add_65 : decode cX9_add 65 = .ok (.getfield 24, 3) := by decide +kernel
theorem dX9_add_68 : decode cX9_add 68 = .ok (.iload_n 2, 1) := by decide +kernel
theorem dX9_add_69 : decode cX9_add 69 = .ok (.iastore, 1) := by decide +kernel
theorem dX9_add_70 : decode cX9_add 70 = .ok (.aload_n 0, 1) := by decide +kernel
theorem dX9_add_71 : decode cX9_add 71 = .ok (.getfield 21, 3) := by decide +kernel
theorem dX9_add_74 : decode cX9_add 74 = .ok (.aload_n 0, 1) := by decide +kernel
theorem dX9_add_75 : decode cX9_add 75 = .ok (.getfield 24, 3) := by decide +kernel
theorem dX9_add_78 : decode cX9_add 78 = .ok (.iload_n 1, 1) := by decide +kernel
theorem dX9_add_79 : decode cX9_add 79 = .ok (.iastore, 1) := by decide +kernel
theorem dX9_add_80 : decode cX9_add 80 = .ok (.aload_n 0, 1) := by decide +kernel
theorem dX9_add_81 : decode cX9_add 81 = .ok (.dup, 1) := by decide +kernel
theorem dX9_add_82 : decode cX9_add 82 = .ok (.getfield 28, 3) := by decide +kernel
theorem dX9_add_85 : decode cX9_add 85 = .ok (.iload_n 2, 1) := by decide +kernel
theorem dX9_add_86 : decode cX9_add 86 = .ok (.iadd, 1) := by decide +kernel
theorem dX9_add_87 : decode cX9_add 87 = .ok (.putfield 28, 3) := by decide +kernel
theorem dX9_add_90 : decode cX9_add 90 = .ok (.aload_n 0, 1) := by decide +kernel
theorem dX9_add_91 : decode cX9_add 91 = .ok (.dup, 1) := by decide +kernel
theorem dX9_add_92 : decode cX9_add 92 = .ok (.getfield 24, 3) := by decide +kernel
theorem dX9_add_95 : decode cX9_add 95 = .ok (.iconst 1, 1) := by decide +kernel
theorem dX9_add_96 : decode cX9_add 96 = .ok (.iadd, 1) := by decide +kernel
theorem dX9_add_97 : decode cX9_add 97 = .ok (.putfield 24, 3) := by decide +kernel
theorem dX9_add_100 : decode cX9_add 100 = .ok (.aload_n 0, 1) := by decide +kernel
theorem dX9_add_101 : decode cX9_add 101 = .ok (.getfield 24, 3) := by decide +kernel
theorem dX9_add_104 : decode cX9_add 104 = .ok (.iconst 1, 1) := by decide +kernel
theorem dX9_add_105 : decode cX9_add 105 = .ok (.isub, 1) := by decide +kernel
theorem dX9_add_106 : decode cX9_add 106 = .ok (.ireturn, 1) := by decide +kernel
theorem dX9_has_0 : decode cX9_has 0 = .ok (.iload_n 1, 1) := by decide +kernel
theorem dX9_has_1 : decode cX9_has 1 = .ok (.aload_n 0, 1) := by decide +kernel
theorem dX9_has_2 : decode cX9_has 2 = .ok (.getfield 24, 3) := by decide +kernel
theorem dX9_has_5 : decode cX9_has 5 = .ok (.invokestatic 37, 3) := by decide +kernel
theorem dX9_has_8 : decode cX9_has 8 = .ok (.ireturn, 1) := by decide +kernel
theorem dX9_size_0 : decode cX9_size 0 = .ok (.aload_n 0, 1) := by decide +kernel
theorem dX9_size_1 : decode cX9_size 1 = .ok (.iload_n 1, 1) := by decide +kernel
theorem dX9_size_2 : decode cX9_size 2 = .ok (.invokevirtual 41, 3) := by decide +kernel
theorem dX9_size_5 : decode cX9_size 5 = .ok (.ifCond .eq 12, 3) := by decide +kernel
theorem dX9_size_8 : decode cX9_size 8 = .ok (.aload_n 0, 1) := by decide +kernel
theorem dX9_size_9 : decode cX9_size 9 = .ok (.getfield 18, 3) := by decide +kernel
theorem dX9_size_12 : decode cX9_size 12 = .ok (.iload_n 1, 1) := by decide +kernel
theorem dX9_size_13 : decode cX9_size 13 = .ok (.iaload, 1) := by decide +kernel
theorem dX9_size_14 : decode cX9_size 14 = .ok (.goto 5, 3) := by decide +kernel
theorem dX9_size_17 : decode cX9_size 17 = .ok (.bipush (-3), 2) := by decide +kernel
theorem dX9_size_19 : decode cX9_size 19 = .ok (.ireturn, 1) := by decide +kernel
theorem dX9_placeFault_0 : decode cX9_placeFault 0 = .ok (.aload_n 0, 1) := by decide +kernel
theorem dX9_placeFault_1 : decode cX9_placeFault 1 = .ok (.iload_n 1, 1) := by decide +kernel
theorem dX9_placeFault_2 : decode cX9_placeFault 2 = .ok (.invokevirtual 41, 3) := by decide +kernel
theorem dX9_placeFault_5 : decode cX9_placeFault 5 = .ok (.ifCond .ne 5, 3) := by decide +kernel
theorem dX9_placeFault_8 : decode cX9_placeFault 8 = .ok (.iconst 2, 1) := by decide +kernel
theorem dX9_placeFault_9 : decode cX9_placeFault 9 = .ok (.ireturn, 1) := by decide +kernel
theorem dX9_placeFault_10 : decode cX9_placeFault 10 = .ok (.aload_n 0, 1) := by decide +kernel
theorem dX9_placeFault_11 : decode cX9_placeFault 11 = .ok (.getfield 21, 3) := by decide +kernel
theorem dX9_placeFault_14 : decode cX9_placeFault 14 = .ok (.iload_n 1, 1) := by decide +kernel
theorem dX9_placeFault_15 : decode cX9_placeFault 15 = .ok (.iaload, 1) := by decide +kernel
theorem dX9_placeFault_16 : decode cX9_placeFault 16 = .ok (.iload_n 2, 1) := by decide +kernel
theorem dX9_placeFault_17 : decode cX9_placeFault 17 = .ok (.if_icmp .eq 5, 3) := by decide +kernel
theorem dX9_placeFault_20 : decode cX9_placeFault 20 = .ok (.iconst 3, 1) := by decide +kernel
theorem dX9_placeFault_21 : decode cX9_placeFault 21 = .ok (.ireturn, 1) := by decide +kernel
theorem dX9_placeFault_22 : decode cX9_placeFault 22 = .ok (.iload_n 3, 1) := by decide +kernel
theorem dX9_placeFault_23 : decode cX9_placeFault 23 = .ok (.aload_n 0, 1) := by decide +kernel
theorem dX9_placeFault_24 : decode cX9_placeFault 24 = .ok (.getfield 18, 3) := by decide +kernel
theorem dX9_placeFault_27 : decode cX9_placeFault 27 = .ok (.iload_n 1, 1) := by decide +kernel
theorem dX9_placeFault_28 : decode cX9_placeFault 28 = .ok (.iaload, 1) := by decide +kernel
theorem dX9_placeFault_29 : decode cX9_placeFault 29 = .ok (.invokestatic 37, 3) := by decide +kernel
theorem dX9_placeFault_32 : decode cX9_placeFault 32 = .ok (.ifCond .eq 7, 3) := by decide +kernel
theorem dX9_placeFault_35 : decode cX9_placeFault 35 = .ok (.iconst 0, 1) := by decide +kernel
theorem dX9_placeFault_36 : decode cX9_placeFault 36 = .ok (.goto 4, 3) := by decide +kernel
theorem dX9_placeFault_39 : decode cX9_placeFault 39 = .ok (.iconst 5, 1) := by decide +kernel
theorem dX9_placeFault_40 : decode cX9_placeFault 40 = .ok (.ireturn, 1) := by decide +kernel
theorem dX9_put_0 : decode cX9_put 0 = .ok (.aload_n 0, 1) := by decide +kernel
theorem dX9_put_1 : decode cX9_put 1 = .ok (.getfield 11, 3) := by decide +kernel
theorem dX9_put_4 : decode cX9_put 4 = .ok (.aload_n 0, 1) := by decide +kernel
theorem dX9_put_5 : decode cX9_put 5 = .ok (.getfield 15, 3) := by decide +kernel
theorem dX9_put_8 : decode cX9_put 8 = .ok (.iload_n 1, 1) := by decide +kernel
theorem dX9_put_9 : decode cX9_put 9 = .ok (.iaload, 1) := by decide +kernel
theorem dX9_put_10 : decode cX9_put 10 = .ok (.iload_n 2, 1) := by decide +kernel
theorem dX9_put_11 : decode cX9_put 11 = .ok (.iadd, 1) := by decide +kernel
theorem dX9_put_12 : decode cX9_put 12 = .ok (.aload_n 0, 1) := by decide +kernel
theorem dX9_put_13 : decode cX9_put 13 = .ok (.getfield 21, 3) := by decide +kernel
theorem dX9_put_16 : decode cX9_put 16 = .ok (.iload_n 1, 1) := by decide +kernel
theorem dX9_put_17 : decode cX9_put 17 = .ok (.iaload, 1) := by decide +kernel
theorem dX9_put_18 : decode cX9_put 18 = .ok (.ifCond .ne 8, 3) := by decide +kernel
theorem dX9_put_21 : decode cX9_put 21 = .ok (.iload_n 3, 1) := by decide +kernel
theorem dX9_put_22 : decode cX9_put 22 = .ok (.i2b, 1) := by decide +kernel
theorem dX9_put_23 : decode cX9_put 23 = .ok (.goto 4, 3) := by decide +kernel
theorem dX9_put_26 : decode cX9_put 26 = .ok (.iload_n 3, 1) := by decide +kernel
theorem dX9_put_27 : decode cX9_put 27 = .ok (.iastore, 1) := by decide +kernel
theorem dX9_put_28 : decode cX9_put 28 = .ok (.return_, 1) := by decide +kernel
theorem dX9_get_0 : decode cX9_get 0 = .ok (.aload_n 0, 1) := by decide +kernel
theorem dX9_get_1 : decode cX9_get 1 = .ok (.getfield 11, 3) := by decide +kernel
theorem dX9_get_4 : decode cX9_get 4 = .ok (.aload_n 0, 1) := by decide +kernel
theorem dX9_get_5 : decode cX9_get 5 = .ok (.getfield 15, 3) := by decide +kernel
theorem dX9_get_8 : decode cX9_get 8 = .ok (.iload_n 1, 1) := by decide +kernel
theorem dX9_get_9 : decode cX9_get 9 = .ok (.iaload, 1) := by decide +kernel
theorem dX9_get_10 : decode cX9_get 10 = .ok (.iload_n 2, 1) := by decide +kernel
theorem dX9_get_11 : decode cX9_get 11 = .ok (.iadd, 1) := by decide +kernel
theorem dX9_get_12 : decode cX9_get 12 = .ok (.iaload, 1) := by decide +kernel
theorem dX9_get_13 : decode cX9_get 13 = .ok (.ireturn, 1) := by decide +kernel
theorem dX9_copyFault_0 : decode cX9_copyFault 0 = .ok (.aload_n 0, 1) := by decide +kernel
theorem dX9_copyFault_1 : decode cX9_copyFault 1 = .ok (.iload_n 1, 1) := by decide +kernel
theorem dX9_copyFault_2 : decode cX9_copyFault 2 = .ok (.invokevirtual 41, 3) := by decide +kernel
theorem dX9_copyFault_5 : decode cX9_copyFault 5 = .ok (.ifCond .eq 11, 3) := by decide +kernel
theorem dX9_copyFault_8 : decode cX9_copyFault 8 = .ok (.aload_n 0, 1) := by decide +kernel
theorem dX9_copyFault_9 : decode cX9_copyFault 9 = .ok (.iload_n 2, 1) := by decide +kernel
theorem dX9_copyFault_10 : decode cX9_copyFault 10 = .ok (.invokevirtual 41, 3) := by decide +kernel
theorem dX9_copyFault_13 : decode cX9_copyFault 13 = .ok (.ifCond .ne 5, 3) := by decide +kernel
theorem dX9_copyFault_16 : decode cX9_copyFault 16 = .ok (.iconst 2, 1) := by decide +kernel
theorem dX9_copyFault_17 : decode cX9_copyFault 17 = .ok (.ireturn, 1) := by decide +kernel
theorem dX9_copyFault_18 : decode cX9_copyFault 18 = .ok (.aload_n 0, 1) := by decide +kernel
theorem dX9_copyFault_19 : decode cX9_copyFault 19 = .ok (.getfield 21, 3) := by decide +kernel
theorem dX9_copyFault_22 : decode cX9_copyFault 22 = .ok (.iload_n 1, 1) := by decide +kernel
theorem dX9_copyFault_23 : decode cX9_copyFault 23 = .ok (.iaload, 1) := by decide +kernel
theorem dX9_copyFault_24 : decode cX9_copyFault 24 = .ok (.aload_n 0, 1) := by decide +kernel
theorem dX9_copyFault_25 : decode cX9_copyFault 25 = .ok (.getfield 21, 3) := by decide +kernel
theorem dX9_copyFault_28 : decode cX9_copyFault 28 = .ok (.iload_n 2, 1) := by decide +kernel
theorem dX9_copyFault_29 : decode cX9_copyFault 29 = .ok (.iaload, 1) := by decide +kernel
theorem dX9_copyFault_30 : decode cX9_copyFault 30 = .ok (.if_icmp .eq 5, 3) := by decide +kernel
theorem dX9_copyFault_33 : decode cX9_copyFault 33 = .ok (.iconst 4, 1) := by decide +kernel
theorem dX9_copyFault_34 : decode cX9_copyFault 34 = .ok (.ireturn, 1) := by decide +kernel
theorem dX9_copyFault_35 : decode cX9_copyFault 35 = .ok (.iload_n 3, 1) := by decide +kernel
theorem dX9_copyFault_36 : decode cX9_copyFault 36 = .ok (.ifCond .lt 23, 3) := by decide +kernel
theorem dX9_copyFault_39 : decode cX9_copyFault 39 = .ok (.iload_n 3, 1) := by decide +kernel
theorem dX9_copyFault_40 : decode cX9_copyFault 40 = .ok (.aload_n 0, 1) := by decide +kernel
theorem dX9_copyFault_41 : decode cX9_copyFault 41 = .ok (.getfield 18, 3) := by decide +kernel
theorem dX9_copyFault_44 : decode cX9_copyFault 44 = .ok (.iload_n 1, 1) := by decide +kernel
theorem dX9_copyFault_45 : decode cX9_copyFault 45 = .ok (.iaload, 1) := by decide +kernel
theorem dX9_copyFault_46 : decode cX9_copyFault 46 = .ok (.if_icmp .gt 13, 3) := by decide +kernel
theorem dX9_copyFault_49 : decode cX9_copyFault 49 = .ok (.iload_n 3, 1) := by decide +kernel
theorem dX9_copyFault_50 : decode cX9_copyFault 50 = .ok (.aload_n 0, 1) := by decide +kernel
theorem dX9_copyFault_51 : decode cX9_copyFault 51 = .ok (.getfield 18, 3) := by decide +kernel
theorem dX9_copyFault_54 : decode cX9_copyFault 54 = .ok (.iload_n 2, 1) := by decide +kernel
theorem dX9_copyFault_55 : decode cX9_copyFault 55 = .ok (.iaload, 1) := by decide +kernel
theorem dX9_copyFault_56 : decode cX9_copyFault 56 = .ok (.if_icmp .le 7, 3) := by decide +kernel
theorem dX9_copyFault_59 : decode cX9_copyFault 59 = .ok (.iconst 5, 1) := by decide +kernel
theorem dX9_copyFault_60 : decode cX9_copyFault 60 = .ok (.goto 4, 3) := by decide +kernel
theorem dX9_copyFault_63 : decode cX9_copyFault 63 = .ok (.iconst 0, 1) := by decide +kernel
theorem dX9_copyFault_64 : decode cX9_copyFault 64 = .ok (.ireturn, 1) := by decide +kernel
theorem dX9_copy_0 : decode cX9_copy 0 = .ok (.aload_n 0, 1) := by decide +kernel
theorem dX9_copy_1 : decode cX9_copy 1 = .ok (.getfield 11, 3) := by decide +kernel
theorem dX9_copy_4 : decode cX9_copy 4 = .ok (.aload_n 0, 1) := by decide +kernel
theorem dX9_copy_5 : decode cX9_copy 5 = .ok (.getfield 15, 3) := by decide +kernel
theorem dX9_copy_8 : decode cX9_copy 8 = .ok (.iload_n 1, 1) := by decide +kernel
theorem dX9_copy_9 : decode cX9_copy 9 = .ok (.iaload, 1) := by decide +kernel
theorem dX9_copy_10 : decode cX9_copy 10 = .ok (.aload_n 0, 1) := by decide +kernel
theorem dX9_copy_11 : decode cX9_copy 11 = .ok (.getfield 11, 3) := by decide +kernel
theorem dX9_copy_14 : decode cX9_copy 14 = .ok (.aload_n 0, 1) := by decide +kernel
theorem dX9_copy_15 : decode cX9_copy 15 = .ok (.getfield 15, 3) := by decide +kernel
theorem dX9_copy_18 : decode cX9_copy 18 = .ok (.iload_n 2, 1) := by decide +kernel
theorem dX9_copy_19 : decode cX9_copy 19 = .ok (.iaload, 1) := by decide +kernel
theorem dX9_copy_20 : decode cX9_copy 20 = .ok (.iload_n 3, 1) := by decide +kernel
theorem dX9_copy_21 : decode cX9_copy 21 = .ok (.invokestatic 45, 3) := by decide +kernel
theorem dX9_copy_24 : decode cX9_copy 24 = .ok (.return_, 1) := by decide +kernel
theorem dX10_init_0 : decode cX10_init 0 = .ok (.aload_n 0, 1) := by decide +kernel
theorem dX10_init_1 : decode cX10_init 1 = .ok (.invokespecial 3, 3) := by decide +kernel
theorem dX10_init_4 : decode cX10_init 4 = .ok (.aload_n 0, 1) := by decide +kernel
theorem dX10_init_5 : decode cX10_init 5 = .ok (.new 9, 3) := by decide +kernel
theorem dX10_init_8 : decode cX10_init 8 = .ok (.dup, 1) := by decide +kernel
theorem dX10_init_9 : decode cX10_init 9 = .ok (.invokespecial 11, 3) := by decide +kernel
theorem dX10_init_12 : decode cX10_init 12 = .ok (.putfield 12, 3) := by decide +kernel
theorem dX10_init_15 : decode cX10_init 15 = .ok (.aload_n 0, 1) := by decide +kernel
theorem dX10_init_16 : decode cX10_init 16 = .ok (.bipush 10, 2) := by decide +kernel
theorem dX10_init_18 : decode cX10_init 18 = .ok (.putfield 16, 3) := by decide +kernel
theorem dX10_init_21 : decode cX10_init 21 = .ok (.return_, 1) := by decide +kernel
theorem dX10_act_0 : decode cX10_act 0 = .ok (.iload_n 1, 1) := by decide +kernel
theorem dX10_act_1 : decode cX10_act 1 = .ok (.bipush 8, 2) := by decide +kernel
theorem dX10_act_3 : decode cX10_act 3 = .ok (.invokestatic 20, 3) := by decide +kernel
theorem dX10_act_6 : decode cX10_act 6 = .ok (.ifCond .eq 17, 3) := by decide +kernel
theorem dX10_act_9 : decode cX10_act 9 = .ok (.iload_n 2, 1) := by decide +kernel
theorem dX10_act_10 : decode cX10_act 10 = .ok (.iload_n 3, 1) := by decide +kernel
theorem dX10_act_11 : decode cX10_act 11 = .ok (.iload 4, 2) := by decide +kernel
theorem dX10_act_13 : decode cX10_act 13 = .ok (.iload 5, 2) := by decide +kernel
theorem dX10_act_15 : decode cX10_act 15 = .ok (.iload 6, 2) := by decide +kernel
theorem dX10_act_17 : decode cX10_act 17 = .ok (.invokestatic 24, 3) := by decide +kernel
theorem dX10_act_20 : decode cX10_act 20 = .ok (.ifCond .ne 5, 3) := by decide +kernel
theorem dX10_act_23 : decode cX10_act 23 = .ok (.iconst (-1), 1) := by decide +kernel
theorem dX10_act_24 : decode cX10_act 24 = .ok (.ireturn, 1) := by decide +kernel
theorem dX10_act_25 : decode cX10_act 25 = .ok (.aload_n 0, 1) := by decide +kernel
theorem dX10_act_26 : decode cX10_act 26 = .ok (.getfield 12, 3) := by decide +kernel
theorem dX10_act_29 : decode cX10_act 29 = .ok (.getfield 30, 3) := by decide +kernel
theorem dX10_act_32 : decode cX10_act 32 = .ok (.iload_n 1, 1) := by decide +kernel
theorem dX10_act_33 : decode cX10_act 33 = .ok (.aaload, 1) := by decide +kernel
theorem dX10_act_34 : decode cX10_act 34 = .ok (.getfield 34, 3) := by decide +kernel
theorem dX10_act_37 : decode cX10_act 37 = .ok (.astore 7, 2) := by decide +kernel
theorem dX10_act_39 : decode cX10_act 39 = .ok (.aload 7, 2) := by decide +kernel
theorem dX10_act_41 : decode cX10_act 41 = .ok (.invokevirtual 40, 3) := by decide +kernel
theorem dX10_act_44 : decode cX10_act 44 = .ok (.bipush 48, 2) := by decide +kernel
theorem dX10_act_46 : decode cX10_act 46 = .ok (.if_icmp .lt 6, 3) := by decide +kernel
theorem dX10_act_49 : decode cX10_act 49 = .ok (.bipush (-2), 2) := by decide +kernel
theorem dX10_act_51 : decode cX10_act 51 = .ok (.ireturn, 1) := by decide +kernel
theorem dX10_act_52 : decode cX10_act 52 = .ok (.aload 7, 2) := by decide +kernel
theorem dX10_act_54 : decode cX10_act 54 = .ok (.new 25, 3) := by decide +kernel
theorem dX10_act_57 : decode cX10_act 57 = .ok (.dup, 1) := by decide +kernel
theorem dX10_act_58 : decode cX10_act 58 = .ok (.iload_n 2, 1) := by decide +kernel
theorem dX10_act_59 : decode cX10_act 59 = .ok (.iload_n 3, 1) := by decide +kernel
theorem dX10_act_60 : decode cX10_act 60 = .ok (.iload 4, 2) := by decide +kernel
theorem dX10_act_62 : decode cX10_act 62 = .ok (.iload 5, 2) := by decide +kernel
theorem dX10_act_64 : decode cX10_act 64 = .ok (.iload 6, 2) := by decide +kernel
theorem dX10_act_66 : decode cX10_act 66 = .ok (.invokespecial 46, 3) := by decide +kernel
theorem dX10_act_69 : decode cX10_act 69 = .ok (.invokevirtual 49, 3) := by decide +kernel
theorem dX10_act_72 : decode cX10_act 72 = .ok (.pop, 1) := by decide +kernel
theorem dX10_act_73 : decode cX10_act 73 = .ok (.aload 7, 2) := by decide +kernel
theorem dX10_act_75 : decode cX10_act 75 = .ok (.invokevirtual 40, 3) := by decide +kernel
theorem dX10_act_78 : decode cX10_act 78 = .ok (.iconst 1, 1) := by decide +kernel
theorem dX10_act_79 : decode cX10_act 79 = .ok (.isub, 1) := by decide +kernel
theorem dX10_act_80 : decode cX10_act 80 = .ok (.ireturn, 1) := by decide +kernel
theorem dX10_guard_0 : decode cX10_guard 0 = .ok (.iload_n 1, 1) := by decide +kernel
theorem dX10_guard_1 : decode cX10_guard 1 = .ok (.bipush 8, 2) := by decide +kernel
theorem dX10_guard_3 : decode cX10_guard 3 = .ok (.invokestatic 20, 3) := by decide +kernel
theorem dX10_guard_6 : decode cX10_guard 6 = .ok (.ifCond .eq 11, 3) := by decide +kernel
theorem dX10_guard_9 : decode cX10_guard 9 = .ok (.iload_n 2, 1) := by decide +kernel
theorem dX10_guard_10 : decode cX10_guard 10 = .ok (.iload_n 3, 1) := by decide +kernel
theorem dX10_guard_11 : decode cX10_guard 11 = .ok (.invokestatic 53, 3) := by decide +kernel
theorem dX10_guard_14 : decode cX10_guard 14 = .ok (.ifCond .ne 5, 3) := by decide +kernel
theorem dX10_guard_17 : decode cX10_guard 17 = .ok (.iconst (-1), 1) := by decide +kernel
theorem dX10_guard_18 : decode cX10_guard 18 = .ok (.ireturn, 1) := by decide +kernel
theorem dX10_guard_19 : decode cX10_guard 19 = .ok (.iload 4, 2) := by decide +kernel
theorem dX10_guard_21 : decode cX10_guard 21 = .ok (.bipush 10, 2) := by decide +kernel
theorem dX10_guard_23 : decode cX10_guard 23 = .ok (.invokestatic 20, 3) := by decide +kernel
theorem dX10_guard_26 : decode cX10_guard 26 = .ok (.ifCond .eq 13, 3) := by decide +kernel
theorem dX10_guard_29 : decode cX10_guard 29 = .ok (.iload 5, 2) := by decide +kernel
theorem dX10_guard_31 : decode cX10_guard 31 = .ok (.bipush 49, 2) := by decide +kernel
theorem dX10_guard_33 : decode cX10_guard 33 = .ok (.invokestatic 20, 3) := by decide +kernel
theorem dX10_guard_36 : decode cX10_guard 36 = .ok (.ifCond .ne 5, 3) := by decide +kernel
theorem dX10_guard_39 : decode cX10_guard 39 = .ok (.iconst (-1), 1) := by decide +kernel
theorem dX10_guard_40 : decode cX10_guard 40 = .ok (.ireturn, 1) := by decide +kernel
theorem dX10_guard_41 : decode cX10_guard 41 = .ok (.aload_n 0, 1) := by decide +kernel
theorem dX10_guard_42 : decode cX10_guard 42 = .ok (.getfield 12, 3) := by decide +kernel
theorem dX10_guard_45 : decode cX10_guard 45 = .ok (.getfield 30, 3) := by decide +kernel
theorem dX10_guard_48 : decode cX10_guard 48 = .ok (.iload_n 1, 1) := by decide +kernel
theorem dX10_guard_49 : decode cX10_guard 49 = .ok (.aaload, 1) := by decide +kernel
theorem dX10_guard_50 : decode cX10_guard 50 = .ok (.getfield 56, 3) := by decide +kernel
theorem dX10_guard_53 : decode cX10_guard 53 = .ok (.astore 6, 2) := by decide +kernel
theorem dX10_guard_55 : decode cX10_guard 55 = .ok (.aload 6, 2) := by decide +kernel
theorem dX10_guard_57 : decode cX10_guard 57 = .ok (.invokevirtual 40, 3) := by decide +kernel
theorem dX10_guard_60 : decode cX10_guard 60 = .ok (.bipush 6, 2) := by decide +kernel
theorem dX10_guard_62 : decode cX10_guard 62 = .ok (.if_icmp .lt 6, 3) := by decide +kernel
theorem dX10_guard_65 : decode cX10_guard 65 = .ok (.bipush (-2), 2) := by decide +kernel
theorem dX10_guard_67 : decode cX10_guard 67 = .ok (.ireturn, 1) := by decide +kernel
theorem dX10_guard_68 : decode cX10_guard 68 = .ok (.aload 6, 2) := by decide +kernel
theorem dX10_guard_70 : decode cX10_guard 70 = .ok (.new 59, 3) := by decide +kernel
theorem dX10_guard_73 : decode cX10_guard 73 = .ok (.dup, 1) := by decide +kernel
theorem dX10_guard_74 : decode cX10_guard 74 = .ok (.iload_n 2, 1) := by decide +kernel
theorem dX10_guard_75 : decode cX10_guard 75 = .ok (.iload_n 3, 1) := by decide +kernel
theorem dX10_guard_76 : decode cX10_guard 76 = .ok (.iload 4, 2) := by decide +kernel
theorem dX10_guard_78 : decode cX10_guard 78 = .ok (.iload 5, 2) := by decide +kernel
theorem dX10_guard_80 : decode cX10_guard 80 = .ok (.invokespecial 61, 3) := by decide +kernel
theorem dX10_guard_83 : decode cX10_guard 83 = .ok (.invokevirtual 49, 3) := by decide +kernel
theorem dX10_guard_86 : decode cX10_guard 86 = .ok (.pop, 1) := by decide +kernel
theorem dX10_guard_87 : decode cX10_guard 87 = .ok (.aload 6, 2) := by decide +kernel
theorem dX10_guard_89 : decode cX10_guard 89 = .ok (.invokevirtual 40, 3) := by decide +kernel
theorem dX10_guard_92 : decode cX10_guard 92 = .ok (.iconst 1, 1) := by decide +kernel
theorem dX10_guard_93 : decode cX10_guard 93 = .ok (.isub, 1) := by decide +kernel
theorem dX10_guard_94 : decode cX10_guard 94 = .ok (.ireturn, 1) := by decide +kernel
theorem dX10_clean_0 : decode cX10_clean 0 = .ok (.iload_n 1, 1) := by decide +kernel
theorem dX10_clean_1 : decode cX10_clean 1 = .ok (.bipush 8, 2) := by decide +kernel
theorem dX10_clean_3 : decode cX10_clean 3 = .ok (.invokestatic 20, 3) := by decide +kernel
theorem dX10_clean_6 : decode cX10_clean 6 = .ok (.ifCond .eq 21, 3) := by decide +kernel
theorem dX10_clean_9 : decode cX10_clean 9 = .ok (.iload_n 2, 1) := by decide +kernel
theorem dX10_clean_10 : decode cX10_clean 10 = .ok (.iload_n 3, 1) := by decide +kernel
theorem dX10_clean_11 : decode cX10_clean 11 = .ok (.invokestatic 53, 3) := by decide +kernel
theorem dX10_clean_14 : decode cX10_clean 14 = .ok (.ifCond .eq 13, 3) := by decide +kernel
theorem dX10_clean_17 : decode cX10_clean 17 = .ok (.iload 4, 2) := by decide +kernel
theorem dX10_clean_19 : decode cX10_clean 19 = .ok (.bipush 8, 2) := by decide +kernel
theorem dX10_clean_21 : decode cX10_clean 21 = .ok (.invokestatic 20, 3) := by decide +kernel
theorem dX10_clean_24 : decode cX10_clean 24 = .ok (.ifCond .ne 5, 3) := by decide +kernel
theorem dX10_clean_27 : decode cX10_clean 27 = .ok (.iconst (-1), 1) := by decide +kernel
theorem dX10_clean_28 : decode cX10_clean 28 = .ok (.ireturn, 1) := by decide +kernel
theorem dX10_clean_29 : decode cX10_clean 29 = .ok (.aload_n 0, 1) := by decide +kernel
theorem dX10_clean_30 : decode cX10_clean 30 = .ok (.getfield 12, 3) := by decide +kernel
theorem dX10_clean_33 : decode cX10_clean 33 = .ok (.getfield 30, 3) := by decide +kernel
theorem dX10_clean_36 : decode cX10_clean 36 = .ok (.iload_n 1, 1) := by decide +kernel
theorem dX10_clean_37 : decode cX10_clean 37 = .ok (.aaload, 1) := by decide +kernel
theorem dX10_clean_38 : decode cX10_clean 38 = .ok (.getfield 64, 3) := by decide +kernel
theorem dX10_clean_41 : decode cX10_clean 41 = .ok (.astore 5, 2) := by decide +kernel
theorem dX10_clean_43 : decode cX10_clean 43 = .ok (.aload 5, 2) := by decide +kernel
theorem dX10_clean_45 : decode cX10_clean 45 = .ok (.invokevirtual 40, 3) := by decide +kernel
theorem dX10_clean_48 : decode cX10_clean 48 = .ok (.bipush 6, 2) := by decide +kernel
theorem dX10_clean_50 : decode cX10_clean 50 = .ok (.if_icmp .lt 6, 3) := by decide +kernel
theorem dX10_clean_53 : decode cX10_clean 53 = .ok (.bipush (-2), 2) := by decide +kernel
theorem dX10_clean_55 : decode cX10_clean 55 = .ok (.ireturn, 1) := by decide +kernel
theorem dX10_clean_56 : decode cX10_clean 56 = .ok (.aload 5, 2) := by decide +kernel
theorem dX10_clean_58 : decode cX10_clean 58 = .ok (.new 67, 3) := by decide +kernel
theorem dX10_clean_61 : decode cX10_clean 61 = .ok (.dup, 1) := by decide +kernel
theorem dX10_clean_62 : decode cX10_clean 62 = .ok (.iload_n 2, 1) := by decide +kernel
theorem dX10_clean_63 : decode cX10_clean 63 = .ok (.iload_n 3, 1) := by decide +kernel
theorem dX10_clean_64 : decode cX10_clean 64 = .ok (.iload 4, 2) := by decide +kernel
theorem dX10_clean_66 : decode cX10_clean 66 = .ok (.invokespecial 69, 3) := by decide +kernel
theorem dX10_clean_69 : decode cX10_clean 69 = .ok (.invokevirtual 49, 3) := by decide +kernel
theorem dX10_clean_72 : decode cX10_clean 72 = .ok (.pop, 1) := by decide +kernel
theorem dX10_clean_73 : decode cX10_clean 73 = .ok (.aload 5, 2) := by decide +kernel
theorem dX10_clean_75 : decode cX10_clean 75 = .ok (.invokevirtual 40, 3) := by decide +kernel
theorem dX10_clean_78 : decode cX10_clean 78 = .ok (.iconst 1, 1) := by decide +kernel
theorem dX10_clean_79 : decode cX10_clean 79 = .ok (.isub, 1) := by decide +kernel
theorem dX10_clean_80 : decode cX10_clean 80 = .ok (.ireturn, 1) := by decide +kernel
theorem dX10_clear_0 : decode cX10_clear 0 = .ok (.iload_n 1, 1) := by decide +kernel
theorem dX10_clear_1 : decode cX10_clear 1 = .ok (.bipush 8, 2) := by decide +kernel
theorem dX10_clear_3 : decode cX10_clear 3 = .ok (.invokestatic 20, 3) := by decide +kernel
theorem dX10_clear_6 : decode cX10_clear 6 = .ok (.ifCond .ne 5, 3) := by decide +kernel
theorem dX10_clear_9 : decode cX10_clear 9 = .ok (.iconst (-1), 1) := by decide +kernel
theorem dX10_clear_10 : decode cX10_clear 10 = .ok (.ireturn, 1) := by decide +kernel
theorem dX10_clear_11 : decode cX10_clear 11 = .ok (.aload_n 0, 1) := by decide +kernel
theorem dX10_clear_12 : decode cX10_clear 12 = .ok (.getfield 12, 3) := by decide +kernel
theorem dX10_clear_15 : decode cX10_clear 15 = .ok (.getfield 30, 3) := by decide +kernel
theorem dX10_clear_18 : decode cX10_clear 18 = .ok (.iload_n 1, 1) := by decide +kernel
theorem dX10_clear_19 : decode cX10_clear 19 = .ok (.aaload, 1) := by decide +kernel
theorem dX10_clear_20 : decode cX10_clear 20 = .ok (.getfield 34, 3) := by decide +kernel
theorem dX10_clear_23 : decode cX10_clear 23 = .ok (.invokevirtual 40, 3) := by decide +kernel
theorem dX10_clear_26 : decode cX10_clear 26 = .ok (.istore_n 2, 1) := by decide +kernel
theorem dX10_clear_27 : decode cX10_clear 27 = .ok (.aload_n 0, 1) := by decide +kernel
theorem dX10_clear_28 : decode cX10_clear 28 = .ok (.getfield 12, 3) := by decide +kernel
theorem dX10_clear_31 : decode cX10_clear 31 = .ok (.getfield 30, 3) := by decide +kernel
theorem dX10_clear_34 : decode cX10_clear 34 = .ok (.iload_n 1, 1) := by decide +kernel
theorem dX10_clear_35 : decode cX10_clear 35 = .ok (.aaload, 1) := by decide +kernel
theorem dX10_clear_36 : decode cX10_clear 36 = .ok (.invokevirtual 72, 3) := by decide +kernel
theorem dX10_clear_39 : decode cX10_clear 39 = .ok (.iload_n 2, 1) := by decide +kernel
theorem dX10_clear_40 : decode cX10_clear 40 = .ok (.ireturn, 1) := by decide +kernel
theorem dX10_reserve_0 : decode cX10_reserve 0 = .ok (.iload_n 1, 1) := by decide +kernel
theorem dX10_reserve_1 : decode cX10_reserve 1 = .ok (.bipush 101, 2) := by decide +kernel
theorem dX10_reserve_3 : decode cX10_reserve 3 = .ok (.invokestatic 20, 3) := by decide +kernel
theorem dX10_reserve_6 : decode cX10_reserve 6 = .ok (.ifCond .ne 5, 3) := by decide +kernel
theorem dX10_reserve_9 : decode cX10_reserve 9 = .ok (.iconst (-1), 1) := by decide +kernel
theorem dX10_reserve_10 : decode cX10_reserve 10 = .ok (.ireturn, 1) := by decide +kernel
theorem dX10_reserve_11 : decode cX10_reserve 11 = .ok (.aload_n 0, 1) := by decide +kernel
theorem dX10_reserve_12 : decode cX10_reserve 12 = .ok (.getfield 16, 3) := by decide +kernel
theorem dX10_reserve_15 : decode cX10_reserve 15 = .ok (.istore_n 2, 1) := by decide +kernel
theorem dX10_reserve_16 : decode cX10_reserve 16 = .ok (.aload_n 0, 1) := by decide +kernel
theorem dX10_reserve_17 : decode cX10_reserve 17 = .ok (.iload_n 1, 1) := by decide +kernel
theorem dX10_reserve_18 : decode cX10_reserve 18 = .ok (.putfield 16, 3) := by decide +kernel
theorem dX10_reserve_21 : decode cX10_reserve 21 = .ok (.iload_n 2, 1) := by decide +kernel
theorem dX10_reserve_22 : decode cX10_reserve 22 = .ok (.ireturn, 1) := by decide +kernel
theorem dX10_run_0 : decode cX10_run 0 = .ok (.iload_n 1, 1) := by decide +kernel
theorem dX10_run_1 : decode cX10_run 1 = .ok (.bipush 8, 2) := by decide +kernel
theorem dX10_run_3 : decode cX10_run 3 = .ok (.invokestatic 20, 3) := by decide +kernel
theorem dX10_run_6 : decode cX10_run 6 = .ok (.ifCond .eq 13, 3) := by decide +kernel
theorem dX10_run_9 : decode cX10_run 9 = .ok (.iload_n 3, 1) := by decide +kernel
theorem dX10_run_10 : decode cX10_run 10 = .ok (.sipush 501, 3) := by decide +kernel
theorem dX10_run_13 : decode cX10_run 13 = .ok (.invokestatic 20, 3) := by decide +kernel
theorem dX10_run_16 : decode cX10_run 16 = .ok (.ifCond .ne 5, 3) := by decide +kernel
theorem dX10_run_19 : decode cX10_run 19 = .ok (.iconst (-1), 1) := by decide +kernel
theorem dX10_run_20 : decode cX10_run 20 = .ok (.ireturn, 1) := by decide +kernel
theorem dX10_run_21 : decode cX10_run 21 = .ok (.aload_n 0, 1) := by decide +kernel
theorem dX10_run_22 : decode cX10_run 22 = .ok (.getfield 12, 3) := by decide +kernel
theorem dX10_run_25 : decode cX10_run 25 = .ok (.iload_n 1, 1) := by decide +kernel
theorem dX10_run_26 : decode cX10_run 26 = .ok (.iload_n 2, 1) := by decide +kernel
theorem dX10_run_27 : decode cX10_run 27 = .ok (.iload_n 3, 1) := by decide +kernel
theorem dX10_run_28 : decode cX10_run 28 = .ok (.aload_n 0, 1) := by decide +kernel
theorem dX10_run_29 : decode cX10_run 29 = .ok (.getfield 16, 3) := by decide +kernel
theorem dX10_run_32 : decode cX10_run 32 = .ok (.invokevirtual 75, 3) := by decide +kernel
theorem dX10_run_35 : decode cX10_run 35 = .ok (.ireturn, 1) := by decide +kernel
theorem dX10_latest_0 : decode cX10_latest 0 = .ok (.iload_n 1, 1) := by decide +kernel
theorem dX10_latest_1 : decode cX10_latest 1 = .ok (.tableswitch 158 0 8 #[51, 62, 73, 84, 95, 106, 117, 128, 147], 51) := by decide +kernel
theorem dX10_latest_52 : decode cX10_latest 52 = .ok (.aload_n 0, 1) := by decide +kernel
theorem dX10_latest_53 : decode cX10_latest 53 = .ok (.getfield 12, 3) := by decide +kernel
theorem dX10_latest_56 : decode cX10_latest 56 = .ok (.getfield 79, 3) := by decide +kernel
theorem dX10_latest_59 : decode cX10_latest 59 = .ok (.getfield 83, 3) := by decide +kernel
theorem dX10_latest_62 : decode cX10_latest 62 = .ok (.ireturn, 1) := by decide +kernel
theorem dX10_latest_63 : decode cX10_latest 63 = .ok (.aload_n 0, 1) := by decide +kernel
theorem dX10_latest_64 : decode cX10_latest 64 = .ok (.getfield 12, 3) := by decide +kernel
theorem dX10_latest_67 : decode cX10_latest 67 = .ok (.getfield 79, 3) := by decide +kernel
theorem dX10_latest_70 : decode cX10_latest 70 = .ok (.getfield 88, 3) := by decide +kernel
theorem dX10_latest_73 : decode cX10_latest 73 = .ok (.ireturn, 1) := by decide +kernel
theorem dX10_latest_74 : decode cX10_latest 74 = .ok (.aload_n 0, 1) := by decide +kernel
theorem dX10_latest_75 : decode cX10_latest 75 = .ok (.getfield 12, 3) := by decide +kernel
theorem dX10_latest_78 : decode cX10_latest 78 = .ok (.getfield 91, 3) := by decide +kernel
theorem dX10_latest_81 : decode cX10_latest 81 = .ok (.getfield 95, 3) := by decide +kernel
theorem dX10_latest_84 : decode cX10_latest 84 = .ok (.ireturn, 1) := by decide +kernel
theorem dX10_latest_85 : decode cX10_latest 85 = .ok (.aload_n 0, 1) := by decide +kernel
theorem dX10_latest_86 : decode cX10_latest 86 = .ok (.getfield 12, 3) := by decide +kernel
theorem dX10_latest_89 : decode cX10_latest 89 = .ok (.getfield 91, 3) := by decide +kernel
theorem dX10_latest_92 : decode cX10_latest 92 = .ok (.getfield 100, 3) := by decide +kernel
theorem dX10_latest_95 : decode cX10_latest 95 = .ok (.ireturn, 1) := by decide +kernel
theorem dX10_latest_96 : decode cX10_latest 96 = .ok (.aload_n 0, 1) := by decide +kernel
theorem dX10_latest_97 : decode cX10_latest 97 = .ok (.getfield 12, 3) := by decide +kernel
theorem dX10_latest_100 : decode cX10_latest 100 = .ok (.getfield 79, 3) := by decide +kernel
theorem dX10_latest_103 : decode cX10_latest 103 = .ok (.getfield 103, 3) := by decide +kernel
theorem dX10_latest_106 : decode cX10_latest 106 = .ok (.ireturn, 1) := by decide +kernel
theorem dX10_latest_107 : decode cX10_latest 107 = .ok (.aload_n 0, 1) := by decide +kernel
theorem dX10_latest_108 : decode cX10_latest 108 = .ok (.getfield 12, 3) := by decide +kernel
theorem dX10_latest_111 : decode cX10_latest 111 = .ok (.getfield 79, 3) := by decide +kernel
theorem dX10_latest_114 : decode cX10_latest 114 = .ok (.getfield 106, 3) := by decide +kernel
theorem dX10_latest_117 : decode cX10_latest 117 = .ok (.ireturn, 1) := by decide +kernel
theorem dX10_latest_118 : decode cX10_latest 118 = .ok (.aload_n 0, 1) := by decide +kernel
theorem dX10_latest_119 : decode cX10_latest 119 = .ok (.getfield 12, 3) := by decide +kernel
theorem dX10_latest_122 : decode cX10_latest 122 = .ok (.getfield 79, 3) := by decide +kernel
theorem dX10_latest_125 : decode cX10_latest 125 = .ok (.getfield 108, 3) := by decide +kernel
theorem dX10_latest_128 : decode cX10_latest 128 = .ok (.ireturn, 1) := by decide +kernel
theorem dX10_latest_129 : decode cX10_latest 129 = .ok (.aload_n 0, 1) := by decide +kernel
theorem dX10_latest_130 : decode cX10_latest 130 = .ok (.getfield 12, 3) := by decide +kernel
theorem dX10_latest_133 : decode cX10_latest 133 = .ok (.getfield 91, 3) := by decide +kernel
theorem dX10_latest_136 : decode cX10_latest 136 = .ok (.getfield 110, 3) := by decide +kernel
theorem dX10_latest_139 : decode cX10_latest 139 = .ok (.ifCond .eq 7, 3) := by decide +kernel
theorem dX10_latest_142 : decode cX10_latest 142 = .ok (.iconst 1, 1) := by decide +kernel
theorem dX10_latest_143 : decode cX10_latest 143 = .ok (.goto 4, 3) := by decide +kernel
theorem dX10_latest_146 : decode cX10_latest 146 = .ok (.iconst 0, 1) := by decide +kernel
theorem dX10_latest_147 : decode cX10_latest 147 = .ok (.ireturn, 1) := by decide +kernel
theorem dX10_latest_148 : decode cX10_latest 148 = .ok (.aload_n 0, 1) := by decide +kernel
theorem dX10_latest_149 : decode cX10_latest 149 = .ok (.getfield 12, 3) := by decide +kernel
theorem dX10_latest_152 : decode cX10_latest 152 = .ok (.getfield 79, 3) := by decide +kernel
theorem dX10_latest_155 : decode cX10_latest 155 = .ok (.getfield 114, 3) := by decide +kernel
theorem dX10_latest_158 : decode cX10_latest 158 = .ok (.ireturn, 1) := by decide +kernel
theorem dX10_latest_159 : decode cX10_latest 159 = .ok (.iconst (-1), 1) := by decide +kernel
theorem dX10_latest_160 : decode cX10_latest 160 = .ok (.ireturn, 1) := by decide +kernel
theorem dX10_cleaned_0 : decode cX10_cleaned 0 = .ok (.iload_n 1, 1) := by decide +kernel
theorem dX10_cleaned_1 : decode cX10_cleaned 1 = .ok (.ifCond .lt 11, 3) := by decide +kernel
theorem dX10_cleaned_4 : decode cX10_cleaned 4 = .ok (.iload_n 2, 1) := by decide +kernel
theorem dX10_cleaned_5 : decode cX10_cleaned 5 = .ok (.iconst 3, 1) := by decide +kernel
theorem dX10_cleaned_6 : decode cX10_cleaned 6 = .ok (.invokestatic 20, 3) := by decide +kernel
theorem dX10_cleaned_9 : decode cX10_cleaned 9 = .ok (.ifCond .ne 5, 3) := by decide +kernel
theorem dX10_cleaned_12 : decode cX10_cleaned 12 = .ok (.iconst (-1), 1) := by decide +kernel
theorem dX10_cleaned_13 : decode cX10_cleaned 13 = .ok (.ireturn, 1) := by decide +kernel
theorem dX10_cleaned_14 : decode cX10_cleaned 14 = .ok (.aload_n 0, 1) := by decide +kernel
theorem dX10_cleaned_15 : decode cX10_cleaned 15 = .ok (.getfield 12, 3) := by decide +kernel
theorem dX10_cleaned_18 : decode cX10_cleaned 18 = .ok (.getfield 79, 3) := by decide +kernel
theorem dX10_cleaned_21 : decode cX10_cleaned 21 = .ok (.iload_n 1, 1) := by decide +kernel
theorem dX10_cleaned_22 : decode cX10_cleaned 22 = .ok (.iload_n 2, 1) := by decide +kernel
theorem dX10_cleaned_23 : decode cX10_cleaned 23 = .ok (.invokevirtual 117, 3) := by decide +kernel
theorem dX10_cleaned_26 : decode cX10_cleaned 26 = .ok (.ireturn, 1) := by decide +kernel
theorem dX10_told_0 : decode cX10_told 0 = .ok (.iload_n 1, 1) := by decide +kernel
theorem dX10_told_1 : decode cX10_told 1 = .ok (.bipush 8, 2) := by decide +kernel
theorem dX10_told_3 : decode cX10_told 3 = .ok (.invokestatic 20, 3) := by decide +kernel
theorem dX10_told_6 : decode cX10_told 6 = .ok (.ifCond .ne 5, 3) := by decide +kernel
theorem dX10_told_9 : decode cX10_told 9 = .ok (.iconst (-1), 1) := by decide +kernel
theorem dX10_told_10 : decode cX10_told 10 = .ok (.ireturn, 1) := by decide +kernel
theorem dX10_told_11 : decode cX10_told 11 = .ok (.iload_n 2, 1) := by decide +kernel
theorem dX10_told_12 : decode cX10_told 12 = .ok (.tableswitch 76 0 2 #[28, 44, 60], 28) := by decide +kernel
theorem dX10_told_40 : decode cX10_told 40 = .ok (.aload_n 0, 1) := by decide +kernel
theorem dX10_told_41 : decode cX10_told 41 = .ok (.getfield 12, 3) := by decide +kernel
theorem dX10_told_44 : decode cX10_told 44 = .ok (.getfield 30, 3) := by decide +kernel
theorem dX10_told_47 : decode cX10_told 47 = .ok (.iload_n 1, 1) := by decide +kernel
theorem dX10_told_48 : decode cX10_told 48 = .ok (.aaload, 1) := by decide +kernel
theorem dX10_told_49 : decode cX10_told 49 = .ok (.getfield 34, 3) := by decide +kernel
theorem dX10_told_52 : decode cX10_told 52 = .ok (.invokevirtual 40, 3) := by decide +kernel
theorem dX10_told_55 : decode cX10_told 55 = .ok (.ireturn, 1) := by decide +kernel
theorem dX10_told_56 : decode cX10_told 56 = .ok (.aload_n 0, 1) := by decide +kernel
theorem dX10_told_57 : decode cX10_told 57 = .ok (.getfield 12, 3) := by decide +kernel
theorem dX10_told_60 : decode cX10_told 60 = .ok (.getfield 30, 3) := by decide +kernel
theorem dX10_told_63 : decode cX10_told 63 = .ok (.iload_n 1, 1) := by decide +kernel
theorem dX10_told_64 : decode cX10_told 64 = .ok (.aaload, 1) := by decide +kernel
theorem dX10_told_65 : decode cX10_told 65 = .ok (.getfield 56, 3) := by decide +kernel
theorem dX10_told_68 : decode cX10_told 68 = .ok (.invokevirtual 40, 3) := by decide +kernel
theorem dX10_told_71 : decode cX10_told 71 = .ok (.ireturn, 1) := by decide +kernel
theorem dX10_told_72 : decode cX10_told 72 = .ok (.aload_n 0, 1) := by decide +kernel
theorem dX10_told_73 : decode cX10_told 73 = .ok (.getfield 12, 3) := by decide +kernel
theorem dX10_told_76 : decode cX10_told 76 = .ok (.getfield 30, 3) := by decide +kernel
theorem dX10_told_79 : decode cX10_told 79 = .ok (.iload_n 1, 1) := by decide +kernel
theorem dX10_told_80 : decode cX10_told 80 = .ok (.aaload, 1) := by decide +kernel
theorem dX10_told_81 : decode cX10_told 81 = .ok (.getfield 64, 3) := by decide +kernel
theorem dX10_told_84 : decode cX10_told 84 = .ok (.invokevirtual 40, 3) := by decide +kernel
theorem dX10_told_87 : decode cX10_told 87 = .ok (.ireturn, 1) := by decide +kernel
theorem dX10_told_88 : decode cX10_told 88 = .ok (.iconst (-1), 1) := by decide +kernel
theorem dX10_told_89 : decode cX10_told 89 = .ok (.ireturn, 1) := by decide +kernel
theorem dX10_within_0 : decode cX10_within 0 = .ok (.iload_n 0, 1) := by decide +kernel
theorem dX10_within_1 : decode cX10_within 1 = .ok (.ifCond .lt 12, 3) := by decide +kernel
theorem dX10_within_4 : decode cX10_within 4 = .ok (.iload_n 0, 1) := by decide +kernel
theorem dX10_within_5 : decode cX10_within 5 = .ok (.iload_n 1, 1) := by decide +kernel
theorem dX10_within_6 : decode cX10_within 6 = .ok (.if_icmp .ge 7, 3) := by decide +kernel
theorem dX10_within_9 : decode cX10_within 9 = .ok (.iconst 1, 1) := by decide +kernel
theorem dX10_within_10 : decode cX10_within 10 = .ok (.goto 4, 3) := by decide +kernel
theorem dX10_within_13 : decode cX10_within 13 = .ok (.iconst 0, 1) := by decide +kernel
theorem dX10_within_14 : decode cX10_within 14 = .ok (.ireturn, 1) := by decide +kernel
theorem dX10_isSpan_0 : decode cX10_isSpan 0 = .ok (.iload_n 0, 1) := by decide +kernel
theorem dX10_isSpan_1 : decode cX10_isSpan 1 = .ok (.bipush 49, 2) := by decide +kernel
theorem dX10_isSpan_3 : decode cX10_isSpan 3 = .ok (.invokestatic 20, 3) := by decide +kernel
theorem dX10_isSpan_6 : decode cX10_isSpan 6 = .ok (.ifCond .eq 21, 3) := by decide +kernel
theorem dX10_isSpan_9 : decode cX10_isSpan 9 = .ok (.iload_n 1, 1) := by decide +kernel
theorem dX10_isSpan_10 : decode cX10_isSpan 10 = .ok (.bipush 49, 2) := by decide +kernel
theorem dX10_isSpan_12 : decode cX10_isSpan 12 = .ok (.invokestatic 20, 3) := by decide +kernel
theorem dX10_isSpan_15 : decode cX10_isSpan 15 = .ok (.ifCond .eq 12, 3) := by decide +kernel
theorem dX10_isSpan_18 : decode cX10_isSpan 18 = .ok (.iload_n 0, 1) := by decide +kernel
theorem dX10_isSpan_19 : decode cX10_isSpan 19 = .ok (.iload_n 1, 1) := by decide +kernel
theorem dX10_isSpan_20 : decode cX10_isSpan 20 = .ok (.if_icmp .ge 7, 3) := by decide +kernel
theorem dX10_isSpan_23 : decode cX10_isSpan 23 = .ok (.iconst 1, 1) := by decide +kernel
theorem dX10_isSpan_24 : decode cX10_isSpan 24 = .ok (.goto 4, 3) := by decide +kernel
theorem dX10_isSpan_27 : decode cX10_isSpan 27 = .ok (.iconst 0, 1) := by decide +kernel
theorem dX10_isSpan_28 : decode cX10_isSpan 28 = .ok (.ireturn, 1) := by decide +kernel
theorem dX11_init_0 : decode cX11_init 0 = .ok (.aload_n 0, 1) := by decide +kernel
theorem dX11_init_1 : decode cX11_init 1 = .ok (.invokespecial 1, 3) := by decide +kernel
theorem dX11_init_4 : decode cX11_init 4 = .ok (.aload_n 0, 1) := by decide +kernel
theorem dX11_init_5 : decode cX11_init 5 = .ok (.bipush 8, 2) := by decide +kernel
theorem dX11_init_7 : decode cX11_init 7 = .ok (.newarray .int, 2) := by decide +kernel
theorem dX11_init_9 : decode cX11_init 9 = .ok (.putfield 7, 3) := by decide +kernel
theorem dX11_init_12 : decode cX11_init 12 = .ok (.aload_n 0, 1) := by decide +kernel
theorem dX11_init_13 : decode cX11_init 13 = .ok (.sipush 384, 3) := by decide +kernel
theorem dX11_init_16 : decode cX11_init 16 = .ok (.newarray .int, 2) := by decide +kernel
theorem dX11_init_18 : decode cX11_init 18 = .ok (.putfield 13, 3) := by decide +kernel
theorem dX11_init_21 : decode cX11_init 21 = .ok (.aload_n 0, 1) := by decide +kernel
theorem dX11_init_22 : decode cX11_init 22 = .ok (.sipush 384, 3) := by decide +kernel
theorem dX11_init_25 : decode cX11_init 25 = .ok (.newarray .int, 2) := by decide +kernel
theorem dX11_init_27 : decode cX11_init 27 = .ok (.putfield 16, 3) := by decide +kernel
theorem dX11_init_30 : decode cX11_init 30 = .ok (.aload_n 0, 1) := by decide +kernel
theorem dX11_init_31 : decode cX11_init 31 = .ok (.sipush 384, 3) := by decide +kernel
theorem dX11_init_34 : decode cX11_init 34 = .ok (.newarray .int, 2) := by decide +kernel
theorem dX11_init_36 : decode cX11_init 36 = .ok (.putfield 19, 3) := by decide +kernel
theorem dX11_init_39 : decode cX11_init 39 = .ok (.aload_n 0, 1) := by decide +kernel
theorem dX11_init_40 : decode cX11_init 40 = .ok (.sipush 384, 3) := by decide +kernel
theorem dX11_init_43 : decode cX11_init 43 = .ok (.newarray .int, 2) := by decide +kernel
theorem dX11_init_45 : decode cX11_init 45 = .ok (.putfield 22, 3) := by decide +kernel
theorem dX11_init_48 : decode cX11_init 48 = .ok (.aload_n 0, 1) := by decide +kernel
theorem dX11_init_49 : decode cX11_init 49 = .ok (.sipush 384, 3) := by decide +kernel
theorem dX11_init_52 : decode cX11_init 52 = .ok (.newarray .int, 2) := by decide +kernel
theorem dX11_init_54 : decode cX11_init 54 = .ok (.putfield 25, 3) := by decide +kernel
theorem dX11_init_57 : decode cX11_init 57 = .ok (.aload_n 0, 1) := by decide +kernel
theorem dX11_init_58 : decode cX11_init 58 = .ok (.bipush 8, 2) := by decide +kernel
theorem dX11_init_60 : decode cX11_init 60 = .ok (.newarray .int, 2) := by decide +kernel
theorem dX11_init_62 : decode cX11_init 62 = .ok (.putfield 28, 3) := by decide +kernel
theorem dX11_init_65 : decode cX11_init 65 = .ok (.aload_n 0, 1) := by decide +kernel
theorem dX11_init_66 : decode cX11_init 66 = .ok (.bipush 48, 2) := by decide +kernel
theorem dX11_init_68 : decode cX11_init 68 = .ok (.newarray .int, 2) := by decide +kernel
theorem dX11_init_70 : decode cX11_init 70 = .ok (.putfield 31, 3) := by decide +kernel
theorem dX11_init_73 : decode cX11_init 73 = .ok (.aload_n 0, 1) := by decide +kernel
theorem dX11_init_74 : decode cX11_init 74 = .ok (.bipush 48, 2) := by decide +kernel
theorem dX11_init_76 : decode cX11_init 76 = .ok (.newarray .int, 2) := by decide +kernel
theorem dX11_init_78 : decode cX11_init 78 = .ok (.putfield 34, 3) := by decide +kernel
theorem dX11_init_81 : decode cX11_init 81 = .ok (.aload_n 0, 1) := by decide +kernel
theorem dX11_init_82 : decode cX11_init 82 = .ok (.bipush 48, 2) := by decide +kernel
theorem dX11_init_84 : decode cX11_init 84 = .ok (.newarray .int, 2) := by decide +kernel
theorem dX11_init_86 : decode cX11_init 86 = .ok (.putfield 37, 3) := by decide +kernel
theorem dX11_init_89 : decode cX11_init 89 = .ok (.aload_n 0, 1) := by decide +kernel
theorem dX11_init_90 : decode cX11_init 90 = .ok (.bipush 48, 2) := by decide +kernel
theorem dX11_init_92 : decode cX11_init 92 = .ok (.newarray .int, 2) := by decide +kernel
theorem dX11_init_94 : decode cX11_init 94 = .ok (.putfield 40, 3) := by decide +kernel
theorem dX11_init_97 : decode cX11_init 97 = .ok (.aload_n 0, 1) := by decide +kernel
theorem dX11_init_98 : decode cX11_init 98 = .ok (.bipush 8, 2) := by decide +kernel
theorem dX11_init_100 : decode cX11_init 100 = .ok (.newarray .int, 2) := by decide +kernel
theorem dX11_init_102 : decode cX11_init 102 = .ok (.putfield 43, 3) := by decide +kernel
theorem dX11_init_105 : decode cX11_init 105 = .ok (.aload_n 0, 1) := by decide +kernel
theorem dX11_init_106 : decode cX11_init 106 = .ok (.bipush 48, 2) := by decide +kernel
theorem dX11_init_108 : decode cX11_init 108 = .ok (.newarray .int, 2) := by decide +kernel
theorem dX11_init_110 : decode cX11_init 110 = .ok (.putfield 46, 3) := by decide +kernel
theorem dX11_init_113 : decode cX11_init 113 = .ok (.aload_n 0, 1) := by decide +kernel
theorem dX11_init_114 : decode cX11_init 114 = .ok (.bipush 48, 2) := by decide +kernel
theorem dX11_init_116 : decode cX11_init 116 = .ok (.newarray .int, 2) := by decide +kernel
theorem dX11_init_118 : decode cX11_init 118 = .ok (.putfield 49, 3) := by decide +kernel
theorem dX11_init_121 : decode cX11_init 121 = .ok (.aload_n 0, 1) := by decide +kernel
theorem dX11_init_122 : decode cX11_init 122 = .ok (.bipush 48, 2) := by decide +kernel
theorem dX11_init_124 : decode cX11_init 124 = .ok (.newarray .int, 2) := by decide +kernel
theorem dX11_init_126 : decode cX11_init 126 = .ok (.putfield 52, 3) := by decide +kernel
theorem dX11_init_129 : decode cX11_init 129 = .ok (.aload_n 0, 1) := by decide +kernel
theorem dX11_init_130 : decode cX11_init 130 = .ok (.bipush 10, 2) := by decide +kernel
theorem dX11_init_132 : decode cX11_init 132 = .ok (.putfield 55, 3) := by decide +kernel
theorem dX11_init_135 : decode cX11_init 135 = .ok (.aload_n 0, 1) := by decide +kernel
theorem dX11_init_136 : decode cX11_init 136 = .ok (.bipush 13, 2) := by decide +kernel
theorem dX11_init_138 : decode cX11_init 138 = .ok (.newarray .int, 2) := by decide +kernel
theorem dX11_init_140 : decode cX11_init 140 = .ok (.putfield 59, 3) := by decide +kernel
theorem dX11_init_143 : decode cX11_init 143 = .ok (.aload_n 0, 1) := by decide +kernel
theorem dX11_init_144 : decode cX11_init 144 = .ok (.bipush 13, 2) := by decide +kernel
theorem dX11_init_146 : decode cX11_init 146 = .ok (.newarray .int, 2) := by decide +kernel
theorem dX11_init_148 : decode cX11_init 148 = .ok (.putfield 62, 3) := by decide +kernel
theorem dX11_init_151 : decode cX11_init 151 = .ok (.aload_n 0, 1) := by decide +kernel
theorem dX11_init_152 : decode cX11_init 152 = .ok (.bipush 78, 2) := by decide +kernel
theorem dX11_init_154 : decode cX11_init 154 = .ok (.newarray .int, 2) := by decide +kernel
theorem dX11_init_156 : decode cX11_init 156 = .ok (.putfield 65, 3) := by decide +kernel
theorem dX11_init_159 : decode cX11_init 159 = .ok (.aload_n 0, 1) := by decide +kernel
theorem dX11_init_160 : decode cX11_init 160 = .ok (.bipush 39, 2) := by decide +kernel
theorem dX11_init_162 : decode cX11_init 162 = .ok (.newarray .int, 2) := by decide +kernel
theorem dX11_init_164 : decode cX11_init 164 = .ok (.putfield 68, 3) := by decide +kernel
theorem dX11_init_167 : decode cX11_init 167 = .ok (.aload_n 0, 1) := by decide +kernel
theorem dX11_init_168 : decode cX11_init 168 = .ok (.bipush 13, 2) := by decide +kernel
theorem dX11_init_170 : decode cX11_init 170 = .ok (.newarray .boolean, 2) := by decide +kernel
theorem dX11_init_172 : decode cX11_init 172 = .ok (.putfield 71, 3) := by decide +kernel
theorem dX11_init_175 : decode cX11_init 175 = .ok (.aload_n 0, 1) := by decide +kernel
theorem dX11_init_176 : decode cX11_init 176 = .ok (.bipush 13, 2) := by decide +kernel
theorem dX11_init_178 : decode cX11_init 178 = .ok (.newarray .boolean, 2) := by decide +kernel
theorem dX11_init_180 : decode cX11_init 180 = .ok (.putfield 75, 3) := by decide +kernel
theorem dX11_init_183 : decode cX11_init 183 = .ok (.aload_n 0, 1) := by decide +kernel
theorem dX11_init_184 : decode cX11_init 184 = .ok (.bipush 13, 2) := by decide +kernel
theorem dX11_init_186 : decode cX11_init 186 = .ok (.newarray .int, 2) := by decide +kernel
theorem dX11_init_188 : decode cX11_init 188 = .ok (.putfield 78, 3) := by decide +kernel
theorem dX11_init_191 : decode cX11_init 191 = .ok (.aload_n 0, 1) := by decide +kernel
theorem dX11_init_192 : decode cX11_init 192 = .ok (.bipush 13, 2) := by decide +kernel
theorem dX11_init_194 : decode cX11_init 194 = .ok (.newarray .int, 2) := by decide +kernel
theorem dX11_init_196 : decode cX11_init 196 = .ok (.putfield 81, 3) := by decide +kernel
theorem dX11_init_199 : decode cX11_init 199 = .ok (.aload_n 0, 1) := by decide +kernel
theorem dX11_init_200 : decode cX11_init 200 = .ok (.bipush 13, 2) := by decide +kernel
theorem dX11_init_202 : decode cX11_init 202 = .ok (.newarray .int, 2) := by decide +kernel
theorem dX11_init_204 : decode cX11_init 204 = .ok (.putfield 84, 3) := by decide +kernel
theorem dX11_init_207 : decode cX11_init 207 = .ok (.aload_n 0, 1) := by decide +kernel
theorem dX11_init_208 : decode cX11_init 208 = .ok (.bipush 13, 2) := by decide +kernel
theorem dX11_init_210 : decode cX11_init 210 = .ok (.newarray .int, 2) := by decide +kernel
theorem dX11_init_212 : decode cX11_init 212 = .ok (.putfield 87, 3) := by decide +kernel
theorem dX11_init_215 : decode cX11_init 215 = .ok (.aload_n 0, 1) := by decide +kernel
theorem dX11_init_216 : decode cX11_init 216 = .ok (.bipush 13, 2) := by decide +kernel
theorem dX11_init_218 : decode cX11_init 218 = .ok (.newarray .int, 2) := by decide +kernel
theorem dX11_init_220 : decode cX11_init 220 = .ok (.putfield 90, 3) := by decide +kernel
theorem dX11_init_223 : decode cX11_init 223 = .ok (.aload_n 0, 1) := by decide +kernel
theorem dX11_init_224 : decode cX11_init 224 = .ok (.sipush 4200, 3) := by decide +kernel
theorem dX11_init_227 : decode cX11_init 227 = .ok (.newarray .int, 2) := by decide +kernel
theorem dX11_init_229 : decode cX11_init 229 = .ok (.putfield 93, 3) := by decide +kernel
theorem dX11_init_232 : decode cX11_init 232 = .ok (.aload_n 0, 1) := by decide +kernel
theorem dX11_init_233 : decode cX11_init 233 = .ok (.sipush 4200, 3) := by decide +kernel
theorem dX11_init_236 : decode cX11_init 236 = .ok (.newarray .int, 2) := by decide +kernel
theorem dX11_init_238 : decode cX11_init 238 = .ok (.putfield 96, 3) := by decide +kernel
theorem dX11_init_241 : decode cX11_init 241 = .ok (.aload_n 0, 1) := by decide +kernel
theorem dX11_init_242 : decode cX11_init 242 = .ok (.sipush 4200, 3) := by decide +kernel
theorem dX11_init_245 : decode cX11_init 245 = .ok (.newarray .int, 2) := by decide +kernel
theorem dX11_init_247 : decode cX11_init 247 = .ok (.putfield 99, 3) := by decide +kernel
theorem dX11_init_250 : decode cX11_init 250 = .ok (.aload_n 0, 1) := by decide +kernel
theorem dX11_init_251 : decode cX11_init 251 = .ok (.ldc 102, 2) := by decide +kernel
theorem dX11_init_253 : decode cX11_init 253 = .ok (.newarray .long, 2) := by decide +kernel
theorem dX11_init_255 : decode cX11_init 255 = .ok (.putfield 103, 3) := by decide +kernel
theorem dX11_init_258 : decode cX11_init 258 = .ok (.aload_n 0, 1) := by decide +kernel
theorem dX11_init_259 : decode cX11_init 259 = .ok (.bipush 9, 2) := by decide +kernel
theorem dX11_init_261 : decode cX11_init 261 = .ok (.newarray .int, 2) := by decide +kernel
theorem dX11_init_263 : decode cX11_init 263 = .ok (.putfield 107, 3) := by decide +kernel
theorem dX11_init_266 : decode cX11_init 266 = .ok (.aload_n 0, 1) := by decide +kernel
theorem dX11_init_267 : decode cX11_init 267 = .ok (.bipush 100, 2) := by decide +kernel
theorem dX11_init_269 : decode cX11_init 269 = .ok (.newarray .int, 2) := by decide +kernel
theorem dX11_init_271 : decode cX11_init 271 = .ok (.putfield 110, 3) := by decide +kernel
theorem dX11_init_274 : decode cX11_init 274 = .ok (.aload_n 0, 1) := by decide +kernel
theorem dX11_init_275 : decode cX11_init 275 = .ok (.bipush 100, 2) := by decide +kernel
theorem dX11_init_277 : decode cX11_init 277 = .ok (.newarray .int, 2) := by decide +kernel
theorem dX11_init_279 : decode cX11_init 279 = .ok (.putfield 113, 3) := by decide +kernel
theorem dX11_init_282 : decode cX11_init 282 = .ok (.aload_n 0, 1) := by decide +kernel
theorem dX11_init_283 : decode cX11_init 283 = .ok (.bipush 100, 2) := by decide +kernel
theorem dX11_init_285 : decode cX11_init 285 = .ok (.newarray .int, 2) := by decide +kernel
theorem dX11_init_287 : decode cX11_init 287 = .ok (.putfield 116, 3) := by decide +kernel
theorem dX11_init_290 : decode cX11_init 290 = .ok (.aload_n 0, 1) := by decide +kernel
theorem dX11_init_291 : decode cX11_init 291 = .ok (.iconst 0, 1) := by decide +kernel
theorem dX11_init_292 : decode cX11_init 292 = .ok (.putfield 119, 3) := by decide +kernel
theorem dX11_init_295 : decode cX11_init 295 = .ok (.return_, 1) := by decide +kernel
theorem dX11_in_0 : decode cX11_in 0 = .ok (.iload_n 0, 1) := by decide +kernel
theorem dX11_in_1 : decode cX11_in 1 = .ok (.iload_n 1, 1) := by decide +kernel
theorem dX11_in_2 : decode cX11_in 2 = .ok (.if_icmp .lt 12, 3) := by decide +kernel
theorem dX11_in_5 : decode cX11_in 5 = .ok (.iload_n 0, 1) := by decide +kernel
theorem dX11_in_6 : decode cX11_in 6 = .ok (.iload_n 2, 1) := by decide +kernel
theorem dX11_in_7 : decode cX11_in 7 = .ok (.if_icmp .gt 7, 3) := by decide +kernel
theorem dX11_in_10 : decode cX11_in 10 = .ok (.iconst 1, 1) := by decide +kernel
theorem dX11_in_11 : decode cX11_in 11 = .ok (.goto 4, 3) := by decide +kernel
theorem dX11_in_14 : decode cX11_in 14 = .ok (.iconst 0, 1) := by decide +kernel
theorem dX11_in_15 : decode cX11_in 15 = .ok (.ireturn, 1) := by decide +kernel
theorem dX11_isMethod_0 : decode cX11_isMethod 0 = .ok (.iload_n 0, 1) := by decide +kernel
theorem dX11_isMethod_1 : decode cX11_isMethod 1 = .ok (.iconst 0, 1) := by decide +kernel
theorem dX11_isMethod_2 : decode cX11_isMethod 2 = .ok (.bipush 7, 2) := by decide +kernel
theorem dX11_isMethod_4 : decode cX11_isMethod 4 = .ok (.invokestatic 122, 3) := by decide +kernel
theorem dX11_isMethod_7 : decode cX11_isMethod 7 = .ok (.ireturn, 1) := by decide +kernel
theorem dX11_isNumber_0 : decode cX11_isNumber 0 = .ok (.iload_n 0, 1) := by decide +kernel
theorem dX11_isNumber_1 : decode cX11_isNumber 1 = .ok (.iconst 0, 1) := by decide +kernel
theorem dX11_isNumber_2 : decode cX11_isNumber 2 = .ok (.iconst 5, 1) := by decide +kernel
theorem dX11_isNumber_3 : decode cX11_isNumber 3 = .ok (.invokestatic 122, 3) := by decide +kernel
theorem dX11_isNumber_6 : decode cX11_isNumber 6 = .ok (.ireturn, 1) := by decide +kernel
theorem dX11_isRow_0 : decode cX11_isRow 0 = .ok (.iload_n 0, 1) := by decide +kernel
theorem dX11_isRow_1 : decode cX11_isRow 1 = .ok (.iconst 0, 1) := by decide +kernel
theorem dX11_isRow_2 : decode cX11_isRow 2 = .ok (.iconst 2, 1) := by decide +kernel
theorem dX11_isRow_3 : decode cX11_isRow 3 = .ok (.invokestatic 122, 3) := by decide +kernel
theorem dX11_isRow_6 : decode cX11_isRow 6 = .ok (.ireturn, 1) := by decide +kernel
theorem dX11_isLane_0 : decode cX11_isLane 0 = .ok (.iload_n 0, 1) := by decide +kernel
theorem dX11_isLane_1 : decode cX11_isLane 1 = .ok (.iconst 0, 1) := by decide +kernel
theorem dX11_isLane_2 : decode cX11_isLane 2 = .ok (.iconst 2, 1) := by decide +kernel
theorem dX11_isLane_3 : decode cX11_isLane 3 = .ok (.invokestatic 122, 3) := by decide +kernel
theorem dX11_isLane_6 : decode cX11_isLane 6 = .ok (.ireturn, 1) := by decide +kernel
theorem dX11_isRight_0 : decode cX11_isRight 0 = .ok (.iload_n 0, 1) := by decide +kernel
theorem dX11_isRight_1 : decode cX11_isRight 1 = .ok (.tableswitch 317 0 14 #[75, 80, 80, 80, 80, 80, 107, 115, 138, 165, 200, 235, 255, 282, 75], 75) := by decide +kernel
theorem dX11_isRight_76 : decode cX11_isRight 76 = .ok (.iload_n 1, 1) := by decide +kernel
theorem dX11_isRight_77 : decode cX11_isRight 77 = .ok (.invokestatic 126, 3) := by decide +kernel
theorem dX11_isRight_80 : decode cX11_isRight 80 = .ok (.ireturn, 1) := by decide +kernel
theorem dX11_isRight_81 : decode cX11_isRight 81 = .ok (.iload_n 1, 1) := by decide +kernel
theorem dX11_isRight_82 : decode cX11_isRight 82 = .ok (.invokestatic 126, 3) := by decide +kernel
theorem dX11_isRight_85 : decode cX11_isRight 85 = .ok (.ifCond .eq 21, 3) := by decide +kernel
theorem dX11_isRight_88 : decode cX11_isRight 88 = .ok (.iload_n 2, 1) := by decide +kernel
theorem dX11_isRight_89 : decode cX11_isRight 89 = .ok (.invokestatic 126, 3) := by decide +kernel
theorem dX11_isRight_92 : decode cX11_isRight 92 = .ok (.ifCond .eq 14, 3) := by decide +kernel
theorem dX11_isRight_95 : decode cX11_isRight 95 = .ok (.iload_n 3, 1) := by decide +kernel
theorem dX11_isRight_96 : decode cX11_isRight 96 = .ok (.invokestatic 126, 3) := by decide +kernel
theorem dX11_isRight_99 : decode cX11_isRight 99 = .ok (.ifCond .eq 7, 3) := by decide +kernel
theorem dX11_isRight_102 : decode cX11_isRight 102 = .ok (.iconst 1, 1) := by decide +kernel
theorem dX11_isRight_103 : decode cX11_isRight 103 = .ok (.goto 4, 3) := by decide +kernel
theorem dX11_isRight_106 : decode cX11_isRight 106 = .ok (.iconst 0, 1) := by decide +kernel
theorem dX11_isRight_107 : decode cX11_isRight 107 = .ok (.ireturn, 1) := by decide +kernel
theorem dX11_isRight_108 : decode cX11_isRight 108 = .ok (.iload_n 2, 1) := by decide +kernel
theorem dX11_isRight_109 : decode cX11_isRight 109 = .ok (.iconst 0, 1) := by decide +kernel
theorem dX11_isRight_110 : decode cX11_isRight 110 = .ok (.bipush 48, 2) := by decide +kernel
theorem dX11_isRight_112 : decode cX11_isRight 112 = .ok (.invokestatic 122, 3) := by decide +kernel
theorem dX11_isRight_115 : decode cX11_isRight 115 = .ok (.ireturn, 1) := by decide +kernel
theorem dX11_isRight_116 : decode cX11_isRight 116 = .ok (.iload_n 1, 1) := by decide +kernel
theorem dX11_isRight_117 : decode cX11_isRight 117 = .ok (.invokestatic 126, 3) := by decide +kernel
theorem dX11_isRight_120 : decode cX11_isRight 120 = .ok (.ifCond .eq 17, 3) := by decide +kernel
theorem dX11_isRight_123 : decode cX11_isRight 123 = .ok (.iload_n 2, 1) := by decide +kernel
theorem dX11_isRight_124 : decode cX11_isRight 124 = .ok (.iconst 0, 1) := by decide +kernel
theorem dX11_isRight_125 : decode cX11_isRight 125 = .ok (.bipush 48, 2) := by decide +kernel
theorem dX11_isRight_127 : decode cX11_isRight 127 = .ok (.invokestatic 122, 3) := by decide +kernel
theorem dX11_isRight_130 : decode cX11_isRight 130 = .ok (.ifCond .eq 7, 3) := by decide +kernel
theorem dX11_isRight_133 : decode cX11_isRight 133 = .ok (.iconst 1, 1) := by decide +kernel
theorem dX11_isRight_134 : decode cX11_isRight 134 = .ok (.goto 4, 3) := by decide +kernel
theorem dX11_isRight_137 : decode cX11_isRight 137 = .ok (.iconst 0, 1) := by decide +kernel
theorem dX11_isRight_138 : decode cX11_isRight 138 = .ok (.ireturn, 1) := by decide +kernel
theorem dX11_isRight_139 : decode cX11_isRight 139 = .ok (.iload_n 1, 1) := by decide +kernel
theorem dX11_isRight_140 : decode cX11_isRight 140 = .ok (.invokestatic 130, 3) := by decide +kernel
theorem dX11_isRight_143 : decode cX11_isRight 143 = .ok (.ifCond .eq 21, 3) := by decide +kernel
theorem dX11_isRight_146 : decode cX11_isRight 146 = .ok (.iload_n 2, 1) := by decide +kernel
theorem dX11_isRight_147 : decode cX11_isRight 147 = .ok (.invokestatic 133, 3) := by decide +kernel
theorem dX11_isRight_150 : decode cX11_isRight 150 = .ok (.ifCond .eq 14, 3) := by decide +kernel
theorem dX11_isRight_153 : decode cX11_isRight 153 = .ok (.iload_n 3, 1) := by decide +kernel
theorem dX11_isRight_154 : decode cX11_isRight 154 = .ok (.invokestatic 126, 3) := by decide +kernel
theorem dX11_isRight_157 : decode cX11_isRight 157 = .ok (.ifCond .eq 7, 3) := by decide +kernel
theorem dX11_isRight_160 : decode cX11_isRight 160 = .ok (.iconst 1, 1) := by decide +kernel
theorem dX11_isRight_161 : decode cX11_isRight 161 = .ok (.goto 4, 3) := by decide +kernel
theorem dX11_isRight_164 : decode cX11_isRight 164 = .ok (.iconst 0, 1) := by decide +kernel
theorem dX11_isRight_165 : decode cX11_isRight 165 = .ok (.ireturn, 1) := by decide +kernel
theorem dX11_isRight_166 : decode cX11_isRight 166 = .ok (.iload_n 1, 1) := by decide +kernel
theorem dX11_isRight_167 : decode cX11_isRight 167 = .ok (.invokestatic 130, 3) := by decide +kernel
theorem dX11_isRight_170 : decode cX11_isRight 170 = .ok (.ifCond .eq 29, 3) := by decide +kernel
theorem dX11_isRight_173 : decode cX11_isRight 173 = .ok (.iload_n 2, 1) := by decide +kernel
theorem dX11_isRight_174 : decode cX11_isRight 174 = .ok (.invokestatic 133, 3) := by decide +kernel
theorem dX11_isRight_177 : decode cX11_isRight 177 = .ok (.ifCond .eq 22, 3) := by decide +kernel
theorem dX11_isRight_180 : decode cX11_isRight 180 = .ok (.iload_n 3, 1) := by decide +kernel
theorem dX11_isRight_181 : decode cX11_isRight 181 = .ok (.invokestatic 126, 3) := by decide +kernel
theorem dX11_isRight_184 : decode cX11_isRight 184 = .ok (.ifCond .eq 15, 3) := by decide +kernel
theorem dX11_isRight_187 : decode cX11_isRight 187 = .ok (.iload 4, 2) := by decide +kernel
theorem dX11_isRight_189 : decode cX11_isRight 189 = .ok (.invokestatic 126, 3) := by decide +kernel
theorem dX11_isRight_192 : decode cX11_isRight 192 = .ok (.ifCond .eq 7, 3) := by decide +kernel
theorem dX11_isRight_195 : decode cX11_isRight 195 = .ok (.iconst 1, 1) := by decide +kernel
theorem dX11_isRight_196 : decode cX11_isRight 196 = .ok (.goto 4, 3) := by decide +kernel
theorem dX11_isRight_199 : decode cX11_isRight 199 = .ok (.iconst 0, 1) := by decide +kernel
theorem dX11_isRight_200 : decode cX11_isRight 200 = .ok (.ireturn, 1) := by decide +kernel
theorem dX11_isRight_201 : decode cX11_isRight 201 = .ok (.iload_n 1, 1) := by decide +kernel
theorem dX11_isRight_202 : decode cX11_isRight 202 = .ok (.invokestatic 126, 3) := by decide +kernel
theorem dX11_isRight_205 : decode cX11_isRight 205 = .ok (.ifCond .eq 29, 3) := by decide +kernel
theorem dX11_isRight_208 : decode cX11_isRight 208 = .ok (.iload_n 2, 1) := by decide +kernel
theorem dX11_isRight_209 : decode cX11_isRight 209 = .ok (.invokestatic 130, 3) := by decide +kernel
theorem dX11_isRight_212 : decode cX11_isRight 212 = .ok (.ifCond .eq 22, 3) := by decide +kernel
theorem dX11_isRight_215 : decode cX11_isRight 215 = .ok (.iload_n 3, 1) := by decide +kernel
theorem dX11_isRight_216 : decode cX11_isRight 216 = .ok (.invokestatic 133, 3) := by decide +kernel
theorem dX11_isRight_219 : decode cX11_isRight 219 = .ok (.ifCond .eq 15, 3) := by decide +kernel
theorem dX11_isRight_222 : decode cX11_isRight 222 = .ok (.iload 4, 2) := by decide +kernel
theorem dX11_isRight_224 : decode cX11_isRight 224 = .ok (.invokestatic 126, 3) := by decide +kernel
theorem dX11_isRight_227 : decode cX11_isRight 227 = .ok (.ifCond .eq 7, 3) := by decide +kernel
theorem dX11_isRight_230 : decode cX11_isRight 230 = .ok (.iconst 1, 1) := by decide +kernel
theorem dX11_isRight_231 : decode cX11_isRight 231 = .ok (.goto 4, 3) := by decide +kernel
theorem dX11_isRight_234 : decode cX11_isRight 234 = .ok (.iconst 0, 1) := by decide +kernel
theorem dX11_isRight_235 : decode cX11_isRight 235 = .ok (.ireturn, 1) := by decide +kernel
theorem dX11_isRight_236 : decode cX11_isRight 236 = .ok (.iload_n 1, 1) := by decide +kernel
theorem dX11_isRight_237 : decode cX11_isRight 237 = .ok (.invokestatic 126, 3) := by decide +kernel
theorem dX11_isRight_240 : decode cX11_isRight 240 = .ok (.ifCond .eq 14, 3) := by decide +kernel
theorem dX11_isRight_243 : decode cX11_isRight 243 = .ok (.iload_n 2, 1) := by decide +kernel
theorem dX11_isRight_244 : decode cX11_isRight 244 = .ok (.invokestatic 130, 3) := by decide +kernel
theorem dX11_isRight_247 : decode cX11_isRight 247 = .ok (.ifCond .eq 7, 3) := by decide +kernel
theorem dX11_isRight_250 : decode cX11_isRight 250 = .ok (.iconst 1, 1) := by decide +kernel
theorem dX11_isRight_251 : decode cX11_isRight 251 = .ok (.goto 4, 3) := by decide +kernel
theorem dX11_isRight_254 : decode cX11_isRight 254 = .ok (.iconst 0, 1) := by decide +kernel
theorem dX11_isRight_255 : decode cX11_isRight 255 = .ok (.ireturn, 1) := by decide +kernel
theorem dX11_isRight_256 : decode cX11_isRight 256 = .ok (.iload_n 1, 1) := by decide +kernel
theorem dX11_isRight_257 : decode cX11_isRight 257 = .ok (.invokestatic 130, 3) := by decide +kernel
theorem dX11_isRight_260 : decode cX11_isRight 260 = .ok (.ifCond .eq 21, 3) := by decide +kernel
theorem dX11_isRight_263 : decode cX11_isRight 263 = .ok (.iload_n 2, 1) := by decide +kernel
theorem dX11_isRight_264 : decode cX11_isRight 264 = .ok (.invokestatic 130, 3) := by decide +kernel
theorem dX11_isRight_267 : decode cX11_isRight 267 = .ok (.ifCond .eq 14, 3) := by decide +kernel
theorem dX11_isRight_270 : decode cX11_isRight 270 = .ok (.iload_n 3, 1) := by decide +kernel
theorem dX11_isRight_271 : decode cX11_isRight 271 = .ok (.invokestatic 126, 3) := by decide +kernel
theorem dX11_isRight_274 : decode cX11_isRight 274 = .ok (.ifCond .eq 7, 3) := by decide +kernel
theorem dX11_isRight_277 : decode cX11_isRight 277 = .ok (.iconst 1, 1) := by decide +kernel
theorem dX11_isRight_278 : decode cX11_isRight 278 = .ok (.goto 4, 3) := by decide +kernel
theorem dX11_isRight_281 : decode cX11_isRight 281 = .ok (.iconst 0, 1) := by decide +kernel
theorem dX11_isRight_282 : decode cX11_isRight 282 = .ok (.ireturn, 1) := by decide +kernel
theorem dX11_isRight_283 : decode cX11_isRight 283 = .ok (.iload_n 1, 1) := by decide +kernel
theorem dX11_isRight_284 : decode cX11_isRight 284 = .ok (.invokestatic 126, 3) := by decide +kernel
theorem dX11_isRight_287 : decode cX11_isRight 287 = .ok (.ifCond .eq 29, 3) := by decide +kernel
theorem dX11_isRight_290 : decode cX11_isRight 290 = .ok (.iload_n 2, 1) := by decide +kernel
theorem dX11_isRight_291 : decode cX11_isRight 291 = .ok (.invokestatic 136, 3) := by decide +kernel
theorem dX11_isRight_294 : decode cX11_isRight 294 = .ok (.ifCond .eq 22, 3) := by decide +kernel
theorem dX11_isRight_297 : decode cX11_isRight 297 = .ok (.iload_n 3, 1) := by decide +kernel
theorem dX11_isRight_298 : decode cX11_isRight 298 = .ok (.invokestatic 130, 3) := by decide +kernel
theorem dX11_isRight_301 : decode cX11_isRight 301 = .ok (.ifCond .eq 15, 3) := by decide +kernel
theorem dX11_isRight_304 : decode cX11_isRight 304 = .ok (.iload 4, 2) := by decide +kernel
theorem dX11_isRight_306 : decode cX11_isRight 306 = .ok (.invokestatic 126, 3) := by decide +kernel
theorem dX11_isRight_309 : decode cX11_isRight 309 = .ok (.ifCond .eq 7, 3) := by decide +kernel
theorem dX11_isRight_312 : decode cX11_isRight 312 = .ok (.iconst 1, 1) := by decide +kernel
theorem dX11_isRight_313 : decode cX11_isRight 313 = .ok (.goto 4, 3) := by decide +kernel
theorem dX11_isRight_316 : decode cX11_isRight 316 = .ok (.iconst 0, 1) := by decide +kernel
theorem dX11_isRight_317 : decode cX11_isRight 317 = .ok (.ireturn, 1) := by decide +kernel
theorem dX11_isRight_318 : decode cX11_isRight 318 = .ok (.iload_n 0, 1) := by decide +kernel
theorem dX11_isRight_319 : decode cX11_isRight 319 = .ok (.bipush 15, 2) := by decide +kernel
theorem dX11_isRight_321 : decode cX11_isRight 321 = .ok (.if_icmp .ne 18, 3) := by decide +kernel
theorem dX11_isRight_324 : decode cX11_isRight 324 = .ok (.iload_n 2, 1) := by decide +kernel
theorem dX11_isRight_325 : decode cX11_isRight 325 = .ok (.bipush 8, 2) := by decide +kernel
theorem dX11_isRight_327 : decode cX11_isRight 327 = .ok (.bipush 9, 2) := by decide +kernel
theorem dX11_isRight_329 : decode cX11_isRight 329 = .ok (.invokestatic 122, 3) := by decide +kernel
theorem dX11_isRight_332 : decode cX11_isRight 332 = .ok (.ifCond .eq 7, 3) := by decide +kernel
theorem dX11_isRight_335 : decode cX11_isRight 335 = .ok (.iconst 1, 1) := by decide +kernel
theorem dX11_isRight_336 : decode cX11_isRight 336 = .ok (.goto 4, 3) := by decide +kernel
theorem dX11_isRight_339 : decode cX11_isRight 339 = .ok (.iconst 0, 1) := by decide +kernel
theorem dX11_isRight_340 : decode cX11_isRight 340 = .ok (.ireturn, 1) := by decide +kernel
theorem dX11_act_0 : decode cX11_act 0 = .ok (.iload_n 1, 1) := by decide +kernel
theorem dX11_act_1 : decode cX11_act 1 = .ok (.invokestatic 136, 3) := by decide +kernel
theorem dX11_act_4 : decode cX11_act 4 = .ok (.ifCond .eq 17, 3) := by decide +kernel
theorem dX11_act_7 : decode cX11_act 7 = .ok (.iload_n 2, 1) := by decide +kernel
theorem dX11_act_8 : decode cX11_act 8 = .ok (.iload_n 3, 1) := by decide +kernel
theorem dX11_act_9 : decode cX11_act 9 = .ok (.iload 4, 2) := by decide +kernel
theorem dX11_act_11 : decode cX11_act 11 = .ok (.iload 5, 2) := by decide +kernel
theorem dX11_act_13 : decode cX11_act 13 = .ok (.iload 6, 2) := by decide +kernel
theorem dX11_act_15 : decode cX11_act 15 = .ok (.invokestatic 139, 3) := by decide +kernel
theorem dX11_act_18 : decode cX11_act 18 = .ok (.ifCond .ne 5, 3) := by decide +kernel
theorem dX11_act_21 : decode cX11_act 21 = .ok (.iconst (-1), 1) := by decide +kernel
theorem dX11_act_22 : decode cX11_act 22 = .ok (.ireturn, 1) := by decide +kernel
theorem dX11_act_23 : decode cX11_act 23 = .ok (.aload_n 0, 1) := by decide +kernel
theorem dX11_act_24 : decode cX11_act 24 = .ok (.getfield 7, 3) := by decide +kernel
theorem dX11_act_27 : decode cX11_act 27 = .ok (.iload_n 1, 1) := by decide +kernel
theorem dX11_act_28 : decode cX11_act 28 = .ok (.iaload, 1) := by decide +kernel
theorem dX11_act_29 : decode cX11_act 29 = .ok (.bipush 48, 2) := by decide +kernel
theorem dX11_act_31 : decode cX11_act 31 = .ok (.if_icmp .ne 6, 3) := by decide +kernel
theorem dX11_act_34 : decode cX11_act 34 = .ok (.bipush (-2), 2) := by decide +kernel
theorem dX11_act_36 : decode cX11_act 36 = .ok (.ireturn, 1) := by decide +kernel
theorem dX11_act_37 : decode cX11_act 37 = .ok (.bipush 48, 2) := by decide +kernel
theorem dX11_act_39 : decode cX11_act 39 = .ok (.iload_n 1, 1) := by decide +kernel
theorem dX11_act_40 : decode cX11_act 40 = .ok (.imul, 1) := by decide +kernel
theorem dX11_act_41 : decode cX11_act 41 = .ok (.aload_n 0, 1) := by decide +kernel
theorem dX11_act_42 : decode cX11_act 42 = .ok (.getfield 7, 3) := by decide +kernel
theorem dX11_act_45 : decode cX11_act 45 = .ok (.iload_n 1, 1) := by decide +kernel
theorem dX11_act_46 : decode cX11_act 46 = .ok (.iaload, 1) := by decide +kernel
theorem dX11_act_47 : decode cX11_act 47 = .ok (.iadd, 1) := by decide +kernel
theorem dX11_act_48 : decode cX11_act 48 = .ok (.istore 7, 2) := by decide +kernel
theorem dX11_act_50 : decode cX11_act 50 = .ok (.aload_n 0, 1) := by decide +kernel
theorem dX11_act_51 : decode cX11_act 51 = .ok (.getfield 13, 3) := by decide +kernel
theorem dX11_act_54 : decode cX11_act 54 = .ok (.iload 7, 2) := by decide +kernel
theorem dX11_act_56 : decode cX11_act 56 = .ok (.iload_n 2, 1) := by decide +kernel
theorem dX11_act_57 : decode cX11_act 57 = .ok (.iastore, 1) := by decide +kernel
theorem dX11_act_58 : decode cX11_act 58 = .ok (.aload_n 0, 1) := by decide +kernel
theorem dX11_act_59 : decode cX11_act 59 = .ok (.getfield 16, 3) := by decide +kernel
theorem dX11_act_62 : decode cX11_act 62 = .ok (.iload 7, 2) := by decide +kernel
theorem dX11_act_64 : decode cX11_act 64 = .ok (.iload_n 3, 1) := by decide +kernel
theorem dX11_act_65 : decode cX11_act 65 = .ok (.iastore, 1) := by decide +kernel
theorem dX11_act_66 : decode cX11_act 66 = .ok (.aload_n 0, 1) := by decide +kernel
theorem dX11_act_67 : decode cX11_act 67 = .ok (.getfield 19, 3) := by decide +kernel
theorem dX11_act_70 : decode cX11_act 70 = .ok (.iload 7, 2) := by decide +kernel
theorem dX11_act_72 : decode cX11_act 72 = .ok (.iload 4, 2) := by decide +kernel
theorem dX11_act_74 : decode cX11_act 74 = .ok (.iastore, 1) := by decide +kernel
theorem dX11_act_75 : decode cX11_act 75 = .ok (.aload_n 0, 1) := by decide +kernel
theorem dX11_act_76 : decode cX11_act 76 = .ok (.getfield 22, 3) := by decide +kernel
theorem dX11_act_79 : decode cX11_act 79 = .ok (.iload 7, 2) := by decide +kernel
theorem dX11_act_81 : decode cX11_act 81 = .ok (.iload 5, 2) := by decide +kernel
theorem dX11_act_83 : decode cX11_act 83 = .ok (.iastore, 1) := by decide +kernel
theorem dX11_act_84 : decode cX11_act 84 = .ok (.aload_n 0, 1) := by decide +kernel
theorem dX11_act_85 : decode cX11_act 85 = .ok (.getfield 25, 3) := by decide +kernel
theorem dX11_act_88 : decode cX11_act 88 = .ok (.iload 7, 2) := by decide +kernel
theorem dX11_act_90 : decode cX11_act 90 = .ok (.iload 6, 2) := by decide +kernel
theorem dX11_act_92 : decode cX11_act 92 = .ok (.iastore, 1) := by decide +kernel
theorem dX11_act_93 : decode cX11_act 93 = .ok (.aload_n 0, 1) := by decide +kernel
theorem dX11_act_94 : decode cX11_act 94 = .ok (.getfield 7, 3) := by decide +kernel
theorem dX11_act_97 : decode cX11_act 97 = .ok (.iload_n 1, 1) := by decide +kernel
theorem dX11_act_98 : decode cX11_act 98 = .ok (.dup2, 1) := by decide +kernel
theorem dX11_act_99 : decode cX11_act 99 = .ok (.iaload, 1) := by decide +kernel
theorem dX11_act_100 : decode cX11_act 100 = .ok (.iconst 1, 1) := by decide +kernel
theorem dX11_act_101 : decode cX11_act 101 = .ok (.iadd, 1) := by decide +kernel
theorem dX11_act_102 : decode cX11_act 102 = .ok (.iastore, 1) := by decide +kernel
theorem dX11_act_103 : decode cX11_act 103 = .ok (.aload_n 0, 1) := by decide +kernel
theorem dX11_act_104 : decode cX11_act 104 = .ok (.getfield 7, 3) := by decide +kernel
theorem dX11_act_107 : decode cX11_act 107 = .ok (.iload_n 1, 1) := by decide +kernel
theorem dX11_act_108 : decode cX11_act 108 = .ok (.iaload, 1) := by decide +kernel
theorem dX11_act_109 : decode cX11_act 109 = .ok (.iconst 1, 1) := by decide +kernel
theorem dX11_act_110 : decode cX11_act 110 = .ok (.isub, 1) := by decide +kernel
theorem dX11_act_111 : decode cX11_act 111 = .ok (.ireturn, 1) := by decide +kernel
theorem dX11_isSpan_0 : decode cX11_isSpan 0 = .ok (.iload_n 0, 1) := by decide +kernel
theorem dX11_isSpan_1 : decode cX11_isSpan 1 = .ok (.invokestatic 136, 3) := by decide +kernel
theorem dX11_isSpan_4 : decode cX11_isSpan 4 = .ok (.ifCond .eq 32, 3) := by decide +kernel
theorem dX11_isSpan_7 : decode cX11_isSpan 7 = .ok (.iload_n 1, 1) := by decide +kernel
theorem dX11_isSpan_8 : decode cX11_isSpan 8 = .ok (.iconst 0, 1) := by decide +kernel
theorem dX11_isSpan_9 : decode cX11_isSpan 9 = .ok (.bipush 48, 2) := by decide +kernel
theorem dX11_isSpan_11 : decode cX11_isSpan 11 = .ok (.invokestatic 122, 3) := by decide +kernel
theorem dX11_isSpan_14 : decode cX11_isSpan 14 = .ok (.ifCond .eq 22, 3) := by decide +kernel
theorem dX11_isSpan_17 : decode cX11_isSpan 17 = .ok (.iload_n 2, 1) := by decide +kernel
theorem dX11_isSpan_18 : decode cX11_isSpan 18 = .ok (.iconst 0, 1) := by decide +kernel
theorem dX11_isSpan_19 : decode cX11_isSpan 19 = .ok (.bipush 48, 2) := by decide +kernel
theorem dX11_isSpan_21 : decode cX11_isSpan 21 = .ok (.invokestatic 122, 3) := by decide +kernel
theorem dX11_isSpan_24 : decode cX11_isSpan 24 = .ok (.ifCond .eq 12, 3) := by decide +kernel
theorem dX11_isSpan_27 : decode cX11_isSpan 27 = .ok (.iload_n 1, 1) := by decide +kernel
theorem dX11_isSpan_28 : decode cX11_isSpan 28 = .ok (.iload_n 2, 1) := by decide +kernel
theorem dX11_isSpan_29 : decode cX11_isSpan 29 = .ok (.if_icmp .ge 7, 3) := by decide +kernel
theorem dX11_isSpan_32 : decode cX11_isSpan 32 = .ok (.iconst 1, 1) := by decide +kernel
theorem dX11_isSpan_33 : decode cX11_isSpan 33 = .ok (.goto 4, 3) := by decide +kernel
theorem dX11_isSpan_36 : decode cX11_isSpan 36 = .ok (.iconst 0, 1) := by decide +kernel
theorem dX11_isSpan_37 : decode cX11_isSpan 37 = .ok (.ireturn, 1) := by decide +kernel
theorem dX11_guard_0 : decode cX11_guard 0 = .ok (.iload_n 1, 1) := by decide +kernel
theorem dX11_guard_1 : decode cX11_guard 1 = .ok (.iload_n 2, 1) := by decide +kernel
theorem dX11_guard_2 : decode cX11_guard 2 = .ok (.iload_n 3, 1) := by decide +kernel
theorem dX11_guard_3 : decode cX11_guard 3 = .ok (.invokestatic 143, 3) := by decide +kernel
theorem dX11_guard_6 : decode cX11_guard 6 = .ok (.ifCond .eq 25, 3) := by decide +kernel
theorem dX11_guard_9 : decode cX11_guard 9 = .ok (.iload 4, 2) := by decide +kernel
theorem dX11_guard_11 : decode cX11_guard 11 = .ok (.iconst 0, 1) := by decide +kernel
theorem dX11_guard_12 : decode cX11_guard 12 = .ok (.bipush 9, 2) := by decide +kernel
theorem dX11_guard_14 : decode cX11_guard 14 = .ok (.invokestatic 122, 3) := by decide +kernel
theorem dX11_guard_17 : decode cX11_guard 17 = .ok (.ifCond .eq 14, 3) := by decide +kernel
theorem dX11_guard_20 : decode cX11_guard 20 = .ok (.iload 5, 2) := by decide +kernel
theorem dX11_guard_22 : decode cX11_guard 22 = .ok (.iconst 0, 1) := by decide +kernel
theorem dX11_guard_23 : decode cX11_guard 23 = .ok (.bipush 48, 2) := by decide +kernel
theorem dX11_guard_25 : decode cX11_guard 25 = .ok (.invokestatic 122, 3) := by decide +kernel
theorem dX11_guard_28 : decode cX11_guard 28 = .ok (.ifCond .ne 5, 3) := by decide +kernel
theorem dX11_guard_31 : decode cX11_guard 31 = .ok (.iconst (-1), 1) := by decide +kernel
theorem dX11_guard_32 : decode cX11_guard 32 = .ok (.ireturn, 1) := by decide +kernel
theorem dX11_guard_33 : decode cX11_guard 33 = .ok (.aload_n 0, 1) := by decide +kernel
theorem dX11_guard_34 : decode cX11_guard 34 = .ok (.getfield 28, 3) := by decide +kernel
theorem dX11_guard_37 : decode cX11_guard 37 = .ok (.iload_n 1, 1) := by decide +kernel
theorem dX11_guard_38 : decode cX11_guard 38 = .ok (.iaload, 1) := by decide +kernel
theorem dX11_guard_39 : decode cX11_guard 39 = .ok (.bipush 6, 2) := by decide +kernel
theorem dX11_guard_41 : decode cX11_guard 41 = .ok (.if_icmp .ne 6, 3) := by decide +kernel
theorem dX11_guard_44 : decode cX11_guard 44 = .ok (.bipush (-2), 2) := by decide +kernel
theorem dX11_guard_46 : decode cX11_guard 46 = .ok (.ireturn, 1) := by decide +kernel
theorem dX11_guard_47 : decode cX11_guard 47 = .ok (.bipush 6, 2) := by decide +kernel
theorem dX11_guard_49 : decode cX11_guard 49 = .ok (.iload_n 1, 1) := by decide +kernel
theorem dX11_guard_50 : decode cX11_guard 50 = .ok (.imul, 1) := by decide +kernel
theorem dX11_guard_51 : decode cX11_guard 51 = .ok (.aload_n 0, 1) := by decide +kernel
theorem dX11_guard_52 : decode cX11_guard 52 = .ok (.getfield 28, 3) := by decide +kernel
theorem dX11_guard_55 : decode cX11_guard 55 = .ok (.iload_n 1, 1) := by decide +kernel
theorem dX11_guard_56 : decode cX11_guard 56 = .ok (.iaload, 1) := by decide +kernel
theorem dX11_guard_57 : decode cX11_guard 57 = .ok (.iadd, 1) := by decide +kernel
theorem dX11_guard_58 : decode cX11_guard 58 = .ok (.istore 6, 2) := by decide +kernel
theorem dX11_guard_60 : decode cX11_guard 60 = .ok (.aload_n 0, 1) := by decide +kernel
theorem dX11_guard_61 : decode cX11_guard 61 = .ok (.getfield 31, 3) := by decide +kernel
theorem dX11_guard_64 : decode cX11_guard 64 = .ok (.iload 6, 2) := by decide +kernel
theorem dX11_guard_66 : decode cX11_guard 66 = .ok (.iload_n 2, 1) := by decide +kernel
theorem dX11_guard_67 : decode cX11_guard 67 = .ok (.iastore, 1) := by decide +kernel
theorem dX11_guard_68 : decode cX11_guard 68 = .ok (.aload_n 0, 1) := by decide +kernel
theorem dX11_guard_69 : decode cX11_guard 69 = .ok (.getfield 34, 3) := by decide +kernel
theorem dX11_guard_72 : decode cX11_guard 72 = .ok (.iload 6, 2) := by decide +kernel
theorem dX11_guard_74 : decode cX11_guard 74 = .ok (.iload_n 3, 1) := by decide +kernel
theorem dX11_guard_75 : decode cX11_guard 75 = .ok (.iastore, 1) := by decide +kernel
theorem dX11_guard_76 : decode cX11_guard 76 = .ok (.aload_n 0, 1) := by decide +kernel
theorem dX11_guard_77 : decode cX11_guard 77 = .ok (.getfield 37, 3) := by decide +kernel
theorem dX11_guard_80 : decode cX11_guard 80 = .ok (.iload 6, 2) := by decide +kernel
theorem dX11_guard_82 : decode cX11_guard 82 = .ok (.iload 4, 2) := by decide +kernel
theorem dX11_guard_84 : decode cX11_guard 84 = .ok (.iastore, 1) := by decide +kernel
theorem dX11_guard_85 : decode cX11_guard 85 = .ok (.aload_n 0, 1) := by decide +kernel
theorem dX11_guard_86 : decode cX11_guard 86 = .ok (.getfield 40, 3) := by decide +kernel
theorem dX11_guard_89 : decode cX11_guard 89 = .ok (.iload 6, 2) := by decide +kernel
theorem dX11_guard_91 : decode cX11_guard 91 = .ok (.iload 5, 2) := by decide +kernel
theorem dX11_guard_93 : decode cX11_guard 93 = .ok (.iastore, 1) := by decide +kernel
theorem dX11_guard_94 : decode cX11_guard 94 = .ok (.aload_n 0, 1) := by decide +kernel
theorem dX11_guard_95 : decode cX11_guard 95 = .ok (.getfield 28, 3) := by decide +kernel
theorem dX11_guard_98 : decode cX11_guard 98 = .ok (.iload_n 1, 1) := by decide +kernel
theorem dX11_guard_99 : decode cX11_guard 99 = .ok (.dup2, 1) := by decide +kernel
theorem dX11_guard_100 : decode cX11_guard 100 = .ok (.iaload, 1) := by decide +kernel
theorem dX11_guard_101 : decode cX11_guard 101 = .ok (.iconst 1, 1) := by decide +kernel
theorem dX11_guard_102 : decode cX11_guard 102 = .ok (.iadd, 1) := by decide +kernel
theorem dX11_guard_103 : decode cX11_guard 103 = .ok (.iastore, 1) := by decide +kernel
theorem dX11_guard_104 : decode cX11_guard 104 = .ok (.aload_n 0, 1) := by decide +kernel
theorem dX11_guard_105 : decode cX11_guard 105 = .ok (.getfield 28, 3) := by decide +kernel
theorem dX11_guard_108 : decode cX11_guard 108 = .ok (.iload_n 1, 1) := by decide +kernel
theorem dX11_guard_109 : decode cX11_guard 109 = .ok (.iaload, 1) := by decide +kernel
theorem dX11_guard_110 : decode cX11_guard 110 = .ok (.iconst 1, 1) := by decide +kernel
theorem dX11_guard_111 : decode cX11_guard 111 = .ok (.isub, 1) := by decide +kernel
theorem dX11_guard_112 : decode cX11_guard 112 = .ok (.ireturn, 1) := by decide +kernel
theorem dX11_clean_0 : decode cX11_clean 0 = .ok (.iload_n 1, 1) := by decide +kernel
theorem dX11_clean_1 : decode cX11_clean 1 = .ok (.iload_n 2, 1) := by decide +kernel
theorem dX11_clean_2 : decode cX11_clean 2 = .ok (.iload_n 3, 1) := by decide +kernel
theorem dX11_clean_3 : decode cX11_clean 3 = .ok (.invokestatic 143, 3) := by decide +kernel
theorem dX11_clean_6 : decode cX11_clean 6 = .ok (.ifCond .eq 11, 3) := by decide +kernel
theorem dX11_clean_9 : decode cX11_clean 9 = .ok (.iload 4, 2) := by decide +kernel
theorem dX11_clean_11 : decode cX11_clean 11 = .ok (.invokestatic 136, 3) := by decide +kernel
theorem dX11_clean_14 : decode cX11_clean 14 = .ok (.ifCond .ne 5, 3) := by decide +kernel
theorem dX11_clean_17 : decode cX11_clean 17 = .ok (.iconst (-1), 1) := by decide +kernel
theorem dX11_clean_18 : decode cX11_clean 18 = .ok (.ireturn, 1) := by decide +kernel
theorem dX11_clean_19 : decode cX11_clean 19 = .ok (.aload_n 0, 1) := by decide +kernel
theorem dX11_clean_20 : decode cX11_clean 20 = .ok (.getfield 43, 3) := by decide +kernel
theorem dX11_clean_23 : decode cX11_clean 23 = .ok (.iload_n 1, 1) := by decide +kernel
theorem dX11_clean_24 : decode cX11_clean 24 = .ok (.iaload, 1) := by decide +kernel
theorem dX11_clean_25 : decode cX11_clean 25 = .ok (.bipush 6, 2) := by decide +kernel
theorem dX11_clean_27 : decode cX11_clean 27 = .ok (.if_icmp .ne 6, 3) := by decide +kernel
theorem dX11_clean_30 : decode cX11_clean 30 = .ok (.bipush (-2), 2) := by decide +kernel
theorem dX11_clean_32 : decode cX11_clean 32 = .ok (.ireturn, 1) := by decide +kernel
theorem dX11_clean_33 : decode cX11_clean 33 = .ok (.bipush 6, 2) := by decide +kernel
theorem dX11_clean_35 : decode cX11_clean 35 = .ok (.iload_n 1, 1) := by decide +kernel
theorem dX11_clean_36 : decode cX11_clean 36 = .ok (.imul, 1) := by decide +kernel
theorem dX11_clean_37 : decode cX11_clean 37 = .ok (.aload_n 0, 1) := by decide +kernel
theorem dX11_clean_38 : decode cX11_clean 38 = .ok (.getfield 43, 3) := by decide +kernel
theorem dX11_clean_41 : decode cX11_clean 41 = .ok (.iload_n 1, 1) := by decide +kernel
theorem dX11_clean_42 : decode cX11_clean 42 = .ok (.iaload, 1) := by decide +kernel
theorem dX11_clean_43 : decode cX11_clean 43 = .ok (.iadd, 1) := by decide +kernel
theorem dX11_clean_44 : decode cX11_clean 44 = .ok (.istore 5, 2) := by decide +kernel
theorem dX11_clean_46 : decode cX11_clean 46 = .ok (.aload_n 0, 1) := by decide +kernel
theorem dX11_clean_47 : decode cX11_clean 47 = .ok (.getfield 46, 3) := by decide +kernel
theorem dX11_clean_50 : decode cX11_clean 50 = .ok (.iload 5, 2) := by decide +kernel
theorem dX11_clean_52 : decode cX11_clean 52 = .ok (.iload_n 2, 1) := by decide +kernel
theorem dX11_clean_53 : decode cX11_clean 53 = .ok (.iastore, 1) := by decide +kernel
theorem dX11_clean_54 : decode cX11_clean 54 = .ok (.aload_n 0, 1) := by decide +kernel
theorem dX11_clean_55 : decode cX11_clean 55 = .ok (.getfield 49, 3) := by decide +kernel
theorem dX11_clean_58 : decode cX11_clean 58 = .ok (.iload 5, 2) := by decide +kernel
theorem dX11_clean_60 : decode cX11_clean 60 = .ok (.iload_n 3, 1) := by decide +kernel
theorem dX11_clean_61 : decode cX11_clean 61 = .ok (.iastore, 1) := by decide +kernel
theorem dX11_clean_62 : decode cX11_clean 62 = .ok (.aload_n 0, 1) := by decide +kernel
theorem dX11_clean_63 : decode cX11_clean 63 = .ok (.getfield 52, 3) := by decide +kernel
theorem dX11_clean_66 : decode cX11_clean 66 = .ok (.iload 5, 2) := by decide +kernel
theorem dX11_clean_68 : decode cX11_clean 68 = .ok (.iload 4, 2) := by decide +kernel
theorem dX11_clean_70 : decode cX11_clean 70 = .ok (.iastore, 1) := by decide +kernel
theorem dX11_clean_71 : decode cX11_clean 71 = .ok (.aload_n 0, 1) := by decide +kernel
theorem dX11_clean_72 : decode cX11_clean 72 = .ok (.getfield 43, 3) := by decide +kernel
theorem dX11_clean_75 : decode cX11_clean 75 = .ok (.iload_n 1, 1) := by decide +kernel
theorem dX11_clean_76 : decode cX11_clean 76 = .ok (.dup2, 1) := by decide +kernel
theorem dX11_clean_77 : decode cX11_clean 77 = .ok (.iaload, 1) := by decide +kernel
theorem dX11_clean_78 : decode cX11_clean 78 = .ok (.iconst 1, 1) := by decide +kernel
theorem dX11_clean_79 : decode cX11_clean 79 = .ok (.iadd, 1) := by decide +kernel
theorem dX11_clean_80 : decode cX11_clean 80 = .ok (.iastore, 1) := by decide +kernel
theorem dX11_clean_81 : decode cX11_clean 81 = .ok (.aload_n 0, 1) := by decide +kernel
theorem dX11_clean_82 : decode cX11_clean 82 = .ok (.getfield 43, 3) := by decide +kernel
theorem dX11_clean_85 : decode cX11_clean 85 = .ok (.iload_n 1, 1) := by decide +kernel
theorem dX11_clean_86 : decode cX11_clean 86 = .ok (.iaload, 1) := by decide +kernel
theorem dX11_clean_87 : decode cX11_clean 87 = .ok (.iconst 1, 1) := by decide +kernel
theorem dX11_clean_88 : decode cX11_clean 88 = .ok (.isub, 1) := by decide +kernel
theorem dX11_clean_89 : decode cX11_clean 89 = .ok (.ireturn, 1) := by decide +kernel
theorem dX11_clear_0 : decode cX11_clear 0 = .ok (.iload_n 1, 1) := by decide +kernel
theorem dX11_clear_1 : decode cX11_clear 1 = .ok (.invokestatic 136, 3) := by decide +kernel
theorem dX11_clear_4 : decode cX11_clear 4 = .ok (.ifCond .ne 5, 3) := by decide +kernel
theorem dX11_clear_7 : decode cX11_clear 7 = .ok (.iconst (-1), 1) := by decide +kernel
theorem dX11_clear_8 : decode cX11_clear 8 = .ok (.ireturn, 1) := by decide +kernel
theorem dX11_clear_9 : decode cX11_clear 9 = .ok (.aload_n 0, 1) := by decide +kernel
theorem dX11_clear_10 : decode cX11_clear 10 = .ok (.getfield 7, 3) := by decide +kernel
theorem dX11_clear_13 : decode cX11_clear 13 = .ok (.iload_n 1, 1) := by decide +kernel
theorem dX11_clear_14 : decode cX11_clear 14 = .ok (.iaload, 1) := by decide +kernel
theorem dX11_clear_15 : decode cX11_clear 15 = .ok (.istore_n 2, 1) := by decide +kernel
theorem dX11_clear_16 : decode cX11_clear 16 = .ok (.aload_n 0, 1) := by decide +kernel
theorem dX11_clear_17 : decode cX11_clear 17 = .ok (.getfield 7, 3) := by decide +kernel
theorem dX11_clear_20 : decode cX11_clear 20 = .ok (.iload_n 1, 1) := by decide +kernel
theorem dX11_clear_21 : decode cX11_clear 21 = .ok (.iconst 0, 1) := by decide +kernel
theorem dX11_clear_22 : decode cX11_clear 22 = .ok (.iastore, 1) := by decide +kernel
theorem dX11_clear_23 : decode cX11_clear 23 = .ok (.aload_n 0, 1) := by decide +kernel
theorem dX11_clear_24 : decode cX11_clear 24 = .ok (.getfield 28, 3) := by decide +kernel
theorem dX11_clear_27 : decode cX11_clear 27 = .ok (.iload_n 1, 1) := by decide +kernel
theorem dX11_clear_28 : decode cX11_clear 28 = .ok (.iconst 0, 1) := by decide +kernel
theorem dX11_clear_29 : decode cX11_clear 29 = .ok (.iastore, 1) := by decide +kernel
theorem dX11_clear_30 : decode cX11_clear 30 = .ok (.aload_n 0, 1) := by decide +kernel
theorem dX11_clear_31 : decode cX11_clear 31 = .ok (.getfield 43, 3) := by decide +kernel
theorem dX11_clear_34 : decode cX11_clear 34 = .ok (.iload_n 1, 1) := by decide +kernel
theorem dX11_clear_35 : decode cX11_clear 35 = .ok (.iconst 0, 1) := by decide +kernel
theorem dX11_clear_36 : decode cX11_clear 36 = .ok (.iastore, 1) := by decide +kernel
theorem dX11_clear_37 : decode cX11_clear 37 = .ok (.iload_n 2, 1) := by decide +kernel
theorem dX11_clear_38 : decode cX11_clear 38 = .ok (.ireturn, 1) := by decide +kernel
theorem dX11_reserve_0 : decode cX11_reserve 0 = .ok (.iload_n 1, 1) := by decide +kernel
theorem dX11_reserve_1 : decode cX11_reserve 1 = .ok (.iconst 0, 1) := by decide +kernel
theorem dX11_reserve_2 : decode cX11_reserve 2 = .ok (.bipush 100, 2) := by decide +kernel
theorem dX11_reserve_4 : decode cX11_reserve 4 = .ok (.invokestatic 122, 3) := by decide +kernel
theorem dX11_reserve_7 : decode cX11_reserve 7 = .ok (.ifCond .ne 5, 3) := by decide +kernel
theorem dX11_reserve_10 : decode cX11_reserve 10 = .ok (.iconst (-1), 1) := by decide +kernel
theorem dX11_reserve_11 : decode cX11_reserve 11 = .ok (.ireturn, 1) := by decide +kernel
theorem dX11_reserve_12 : decode cX11_reserve 12 = .ok (.aload_n 0, 1) := by decide +kernel
theorem dX11_reserve_13 : decode cX11_reserve 13 = .ok (.getfield 55, 3) := by decide +kernel
theorem dX11_reserve_16 : decode cX11_reserve 16 = .ok (.istore_n 2, 1) := by decide +kernel
theorem dX11_reserve_17 : decode cX11_reserve 17 = .ok (.aload_n 0, 1) := by decide +kernel
theorem dX11_reserve_18 : decode cX11_reserve 18 = .ok (.iload_n 1, 1) := by decide +kernel
theorem dX11_reserve_19 : decode cX11_reserve 19 = .ok (.putfield 55, 3) := by decide +kernel
theorem dX11_reserve_22 : decode cX11_reserve 22 = .ok (.iload_n 2, 1) := by decide +kernel
theorem dX11_reserve_23 : decode cX11_reserve 23 = .ok (.ireturn, 1) := by decide +kernel
theorem dX11_counts_0 : decode cX11_counts 0 = .ok (.aload_n 0, 1) := by decide +kernel
theorem dX11_counts_1 : decode cX11_counts 1 = .ok (.iconst 1, 1) := by decide +kernel
theorem dX11_counts_2 : decode cX11_counts 2 = .ok (.invokevirtual 146, 3) := by decide +kernel
theorem dX11_counts_5 : decode cX11_counts 5 = .ok (.ireturn, 1) := by decide +kernel
theorem dX11_take_0 : decode cX11_take 0 = .ok (.aload_n 0, 1) := by decide +kernel
theorem dX11_take_1 : decode cX11_take 1 = .ok (.getfield 149, 3) := by decide +kernel
theorem dX11_take_4 : decode cX11_take 4 = .ok (.ifCond .eq 7, 3) := by decide +kernel
theorem dX11_take_7 : decode cX11_take 7 = .ok (.iconst 3, 1) := by decide +kernel
theorem dX11_take_8 : decode cX11_take 8 = .ok (.goto 4, 3) := by decide +kernel
theorem dX11_take_11 : decode cX11_take 11 = .ok (.iconst 2, 1) := by decide +kernel
theorem dX11_take_12 : decode cX11_take 12 = .ok (.istore_n 2, 1) := by decide +kernel
theorem dX11_take_13 : decode cX11_take 13 = .ok (.aload_n 0, 1) := by decide +kernel
theorem dX11_take_14 : decode cX11_take 14 = .ok (.getfield 107, 3) := by decide +kernel
theorem dX11_take_17 : decode cX11_take 17 = .ok (.iload_n 2, 1) := by decide +kernel
theorem dX11_take_18 : decode cX11_take 18 = .ok (.iaload, 1) := by decide +kernel
theorem dX11_take_19 : decode cX11_take 19 = .ok (.iload_n 1, 1) := by decide +kernel
theorem dX11_take_20 : decode cX11_take 20 = .ok (.iadd, 1) := by decide +kernel
theorem dX11_take_21 : decode cX11_take 21 = .ok (.aload_n 0, 1) := by decide +kernel
theorem dX11_take_22 : decode cX11_take 22 = .ok (.getfield 149, 3) := by decide +kernel
theorem dX11_take_25 : decode cX11_take 25 = .ok (.ifCond .eq 10, 3) := by decide +kernel
theorem dX11_take_28 : decode cX11_take 28 = .ok (.aload_n 0, 1) := by decide +kernel
theorem dX11_take_29 : decode cX11_take 29 = .ok (.getfield 55, 3) := by decide +kernel
theorem dX11_take_32 : decode cX11_take 32 = .ok (.goto 7, 3) := by decide +kernel
theorem dX11_take_35 : decode cX11_take 35 = .ok (.aload_n 0, 1) := by decide +kernel
theorem dX11_take_36 : decode cX11_take 36 = .ok (.getfield 153, 3) := by decide +kernel
theorem dX11_take_39 : decode cX11_take 39 = .ok (.if_icmp .gt 15, 3) := by decide +kernel
theorem dX11_take_42 : decode cX11_take 42 = .ok (.aload_n 0, 1) := by decide +kernel
theorem dX11_take_43 : decode cX11_take 43 = .ok (.getfield 107, 3) := by decide +kernel
theorem dX11_take_46 : decode cX11_take 46 = .ok (.iload_n 2, 1) := by decide +kernel
theorem dX11_take_47 : decode cX11_take 47 = .ok (.dup2, 1) := by decide +kernel
theorem dX11_take_48 : decode cX11_take 48 = .ok (.iaload, 1) := by decide +kernel
theorem dX11_take_49 : decode cX11_take 49 = .ok (.iload_n 1, 1) := by decide +kernel
theorem dX11_take_50 : decode cX11_take 50 = .ok (.iadd, 1) := by decide +kernel
theorem dX11_take_51 : decode cX11_take 51 = .ok (.iastore, 1) := by decide +kernel
theorem dX11_take_52 : decode cX11_take 52 = .ok (.iconst 1, 1) := by decide +kernel
theorem dX11_take_53 : decode cX11_take 53 = .ok (.ireturn, 1) := by decide +kernel
theorem dX11_take_54 : decode cX11_take 54 = .ok (.aload_n 0, 1) := by decide +kernel
theorem dX11_take_55 : decode cX11_take 55 = .ok (.invokevirtual 156, 3) := by decide +kernel
theorem dX11_take_58 : decode cX11_take 58 = .ok (.iconst 0, 1) := by decide +kernel
theorem dX11_take_59 : decode cX11_take 59 = .ok (.ireturn, 1) := by decide +kernel
theorem dX11_over_0 : decode cX11_over 0 = .ok (.aload_n 0, 1) := by decide +kernel
theorem dX11_over_1 : decode cX11_over 1 = .ok (.getfield 149, 3) := by decide +kernel
theorem dX11_over_4 : decode cX11_over 4 = .ok (.ifCond .eq 19, 3) := by decide +kernel
theorem dX11_over_7 : decode cX11_over 7 = .ok (.aload_n 0, 1) := by decide +kernel
theorem dX11_over_8 : decode cX11_over 8 = .ok (.getfield 107, 3) := by decide +kernel
theorem dX11_over_11 : decode cX11_over 11 = .ok (.bipush 7, 2) := by decide +kernel
theorem dX11_over_13 : decode cX11_over 13 = .ok (.iconst 1, 1) := by decide +kernel
theorem dX11_over_14 : decode cX11_over 14 = .ok (.iastore, 1) := by decide +kernel
theorem dX11_over_15 : decode cX11_over 15 = .ok (.aload_n 0, 1) := by decide +kernel
theorem dX11_over_16 : decode cX11_over 16 = .ok (.iconst 1, 1) := by decide +kernel
theorem dX11_over_17 : decode cX11_over 17 = .ok (.putfield 159, 3) := by decide +kernel
theorem dX11_over_20 : decode cX11_over 20 = .ok (.goto 83, 3) := by decide +kernel
theorem dX11_over_23 : decode cX11_over 23 = .ok (.aload_n 0, 1) := by decide +kernel
theorem dX11_over_24 : decode cX11_over 24 = .ok (.iconst 1, 1) := by decide +kernel
theorem dX11_over_25 : decode cX11_over 25 = .ok (.putfield 149, 3) := by decide +kernel
theorem dX11_over_28 : decode cX11_over 28 = .ok (.aload_n 0, 1) := by decide +kernel
theorem dX11_over_29 : decode cX11_over 29 = .ok (.aload_n 0, 1) := by decide +kernel
theorem dX11_over_30 : decode cX11_over 30 = .ok (.getfield 119, 3) := by decide +kernel
theorem dX11_over_33 : decode cX11_over 33 = .ok (.iconst 1, 1) := by decide +kernel
theorem dX11_over_34 : decode cX11_over 34 = .ok (.isub, 1) := by decide +kernel
theorem dX11_over_35 : decode cX11_over 35 = .ok (.putfield 162, 3) := by decide +kernel
theorem dX11_over_38 : decode cX11_over 38 = .ok (.aload_n 0, 1) := by decide +kernel
theorem dX11_over_39 : decode cX11_over 39 = .ok (.iconst 1, 1) := by decide +kernel
theorem dX11_over_40 : decode cX11_over 40 = .ok (.putfield 165, 3) := by decide +kernel
theorem dX11_over_43 : decode cX11_over 43 = .ok (.iconst 0, 1) := by decide +kernel
theorem dX11_over_44 : decode cX11_over 44 = .ok (.istore_n 1, 1) := by decide +kernel
theorem dX11_over_45 : decode cX11_over 45 = .ok (.iload_n 1, 1) := by decide +kernel
theorem dX11_over_46 : decode cX11_over 46 = .ok (.aload_n 0, 1) := by decide +kernel
theorem dX11_over_47 : decode cX11_over 47 = .ok (.getfield 119, 3) := by decide +kernel
theorem dX11_over_50 : decode cX11_over 50 = .ok (.if_icmp .ge 53, 3) := by decide +kernel
theorem dX11_over_53 : decode cX11_over 53 = .ok (.aload_n 0, 1) := by decide +kernel
theorem dX11_over_54 : decode cX11_over 54 = .ok (.getfield 87, 3) := by decide +kernel
theorem dX11_over_57 : decode cX11_over 57 = .ok (.iload_n 1, 1) := by decide +kernel
theorem dX11_over_58 : decode cX11_over 58 = .ok (.aload_n 0, 1) := by decide +kernel
theorem dX11_over_59 : decode cX11_over 59 = .ok (.getfield 75, 3) := by decide +kernel
theorem dX11_over_62 : decode cX11_over 62 = .ok (.iload_n 1, 1) := by decide +kernel
theorem dX11_over_63 : decode cX11_over 63 = .ok (.baload, 1) := by decide +kernel
theorem dX11_over_64 : decode cX11_over 64 = .ok (.ifCond .eq 12, 3) := by decide +kernel
theorem dX11_over_67 : decode cX11_over 67 = .ok (.aload_n 0, 1) := by decide +kernel
theorem dX11_over_68 : decode cX11_over 68 = .ok (.getfield 87, 3) := by decide +kernel
theorem dX11_over_71 : decode cX11_over 71 = .ok (.iload_n 1, 1) := by decide +kernel
theorem dX11_over_72 : decode cX11_over 72 = .ok (.iaload, 1) := by decide +kernel
theorem dX11_over_73 : decode cX11_over 73 = .ok (.goto 4, 3) := by decide +kernel
theorem dX11_over_76 : decode cX11_over 76 = .ok (.iconst 0, 1) := by decide +kernel
theorem dX11_over_77 : decode cX11_over 77 = .ok (.iastore, 1) := by decide +kernel
theorem dX11_over_78 : decode cX11_over 78 = .ok (.aload_n 0, 1) := by decide +kernel
theorem dX11_over_79 : decode cX11_over 79 = .ok (.getfield 90, 3) := by decide +kernel
theorem dX11_over_82 : decode cX11_over 82 = .ok (.iload_n 1, 1) := by decide +kernel
theorem dX11_over_83 : decode cX11_over 83 = .ok (.aload_n 0, 1) := by decide +kernel
theorem dX11_over_84 : decode cX11_over 84 = .ok (.getfield 43, 3) := by decide +kernel
theorem dX11_over_87 : decode cX11_over 87 = .ok (.aload_n 0, 1) := by decide +kernel
theorem dX11_over_88 : decode cX11_over 88 = .ok (.getfield 59, 3) := by decide +kernel
theorem dX11_over_91 : decode cX11_over 91 = .ok (.iload_n 1, 1) := by decide +kernel
theorem dX11_over_92 : decode cX11_over 92 = .ok (.iaload, 1) := by decide +kernel
theorem dX11_over_93 : decode cX11_over 93 = .ok (.iaload, 1) := by decide +kernel
theorem dX11_over_94 : decode cX11_over 94 = .ok (.iconst 1, 1) := by decide +kernel
theorem dX11_over_95 : decode cX11_over 95 = .ok (.isub, 1) := by decide +kernel
theorem dX11_over_96 : decode cX11_over 96 = .ok (.iastore, 1) := by decide +kernel
theorem dX11_over_97 : decode cX11_over 97 = .ok (.iinc 1 1, 3) := by decide +kernel
theorem dX11_over_100 : decode cX11_over 100 = .ok (.goto (-55), 3) := by decide +kernel
theorem dX11_over_103 : decode cX11_over 103 = .ok (.return_, 1) := by decide +kernel
theorem dX11_begins_0 : decode cX11_begins 0 = .ok (.iload_n 2, 1) := by decide +kernel
theorem dX11_begins_1 : decode cX11_begins 1 = .ok (.bipush 6, 2) := by decide +kernel
theorem dX11_begins_3 : decode cX11_begins 3 = .ok (.if_icmp .le 12, 3) := by decide +kernel
theorem dX11_begins_6 : decode cX11_begins 6 = .ok (.aload_n 0, 1) := by decide +kernel
theorem dX11_begins_7 : decode cX11_begins 7 = .ok (.iload_n 1, 1) := by decide +kernel
theorem dX11_begins_8 : decode cX11_begins 8 = .ok (.iload_n 2, 1) := by decide +kernel
theorem dX11_begins_9 : decode cX11_begins 9 = .ok (.invokevirtual 168, 3) := by decide +kernel
theorem dX11_begins_12 : decode cX11_begins 12 = .ok (.goto 35, 3) := by decide +kernel
theorem dX11_begins_15 : decode cX11_begins 15 = .ok (.aload_n 0, 1) := by decide +kernel
theorem dX11_begins_16 : decode cX11_begins 16 = .ok (.getfield 172, 3) := by decide +kernel
theorem dX11_begins_19 : decode cX11_begins 19 = .ok (.bipush 24, 2) := by decide +kernel
theorem dX11_begins_21 : decode cX11_begins 21 = .ok (.if_icmp .ne 10, 3) := by decide +kernel
theorem dX11_begins_24 : decode cX11_begins 24 = .ok (.aload_n 0, 1) := by decide +kernel
theorem dX11_begins_25 : decode cX11_begins 25 = .ok (.invokevirtual 156, 3) := by decide +kernel
theorem dX11_begins_28 : decode cX11_begins 28 = .ok (.goto 19, 3) := by decide +kernel
theorem dX11_begins_31 : decode cX11_begins 31 = .ok (.aload_n 0, 1) := by decide +kernel
theorem dX11_begins_32 : decode cX11_begins 32 = .ok (.dup, 1) := by decide +kernel
theorem dX11_begins_33 : decode cX11_begins 33 = .ok (.getfield 172, 3) := by decide +kernel
theorem dX11_begins_36 : decode cX11_begins 36 = .ok (.iconst 1, 1) := by decide +kernel
theorem dX11_begins_37 : decode cX11_begins 37 = .ok (.iadd, 1) := by decide +kernel
theorem dX11_begins_38 : decode cX11_begins 38 = .ok (.putfield 172, 3) := by decide +kernel
theorem dX11_begins_41 : decode cX11_begins 41 = .ok (.aload_n 0, 1) := by decide +kernel
theorem dX11_begins_42 : decode cX11_begins 42 = .ok (.iload_n 1, 1) := by decide +kernel
theorem dX11_begins_43 : decode cX11_begins 43 = .ok (.iload_n 2, 1) := by decide +kernel
theorem dX11_begins_44 : decode cX11_begins 44 = .ok (.invokevirtual 168, 3) := by decide +kernel
theorem dX11_begins_47 : decode cX11_begins 47 = .ok (.return_, 1) := by decide +kernel
theorem dX11_makes_0 : decode cX11_makes 0 = .ok (.aload_n 0, 1) := by decide +kernel
theorem dX11_makes_1 : decode cX11_makes 1 = .ok (.getfield 119, 3) := by decide +kernel
theorem dX11_makes_4 : decode cX11_makes 4 = .ok (.bipush 12, 2) := by decide +kernel
theorem dX11_makes_6 : decode cX11_makes 6 = .ok (.if_icmp .ne 5, 3) := by decide +kernel
theorem dX11_makes_9 : decode cX11_makes 9 = .ok (.iconst 0, 1) := by decide +kernel
theorem dX11_makes_10 : decode cX11_makes 10 = .ok (.ireturn, 1) := by decide +kernel
theorem dX11_makes_11 : decode cX11_makes 11 = .ok (.aload_n 0, 1) := by decide +kernel
theorem dX11_makes_12 : decode cX11_makes 12 = .ok (.getfield 59, 3) := by decide +kernel
theorem dX11_makes_15 : decode cX11_makes 15 = .ok (.aload_n 0, 1) := by decide +kernel
theorem dX11_makes_16 : decode cX11_makes 16 = .ok (.getfield 119, 3) := by decide +kernel
theorem dX11_makes_19 : decode cX11_makes 19 = .ok (.iload_n 1, 1) := by decide +kernel
theorem dX11_makes_20 : decode cX11_makes 20 = .ok (.iastore, 1) := by decide +kernel
theorem dX11_makes_21 : decode cX11_makes 21 = .ok (.aload_n 0, 1) := by decide +kernel
theorem dX11_makes_22 : decode cX11_makes 22 = .ok (.getfield 62, 3) := by decide +kernel
theorem dX11_makes_25 : decode cX11_makes 25 = .ok (.aload_n 0, 1) := by decide +kernel
theorem dX11_makes_26 : decode cX11_makes 26 = .ok (.getfield 119, 3) := by decide +kernel
theorem dX11_makes_29 : decode cX11_makes 29 = .ok (.iconst 0, 1) := by decide +kernel
theorem dX11_makes_30 : decode cX11_makes 30 = .ok (.iastore, 1) := by decide +kernel
theorem dX11_makes_31 : decode cX11_makes 31 = .ok (.iconst 0, 1) := by decide +kernel
theorem dX11_makes_32 : decode cX11_makes 32 = .ok (.istore 6, 2) := by decide +kernel
theorem dX11_makes_34 : decode cX11_makes 34 = .ok (.iload 6, 2) := by decide +kernel
theorem dX11_makes_36 : decode cX11_makes 36 = .ok (.bipush 6, 2) := by decide +kernel
theorem dX11_makes_38 : decode cX11_makes 38 = .ok (.if_icmp .ge 25, 3) := by decide +kernel
theorem dX11_makes_41 : decode cX11_makes 41 = .ok (.aload_n 0, 1) := by decide +kernel
theorem dX11_makes_42 : decode cX11_makes 42 = .ok (.getfield 65, 3) := by decide +kernel
theorem dX11_makes_45 : decode cX11_makes 45 = .ok (.bipush 6, 2) := by decide +kernel
theorem dX11_makes_47 : decode cX11_makes 47 = .ok (.aload_n 0, 1) := by decide +kernel
theorem dX11_makes_48 : decode cX11_makes 48 = .ok (.getfield 119, 3) := by decide +kernel
theorem dX11_makes_51 : decode cX11_makes 51 = .ok (.imul, 1) := by decide +kernel
theorem dX11_makes_52 : decode cX11_makes 52 = .ok (.iload 6, 2) := by decide +kernel
theorem dX11_makes_54 : decode cX11_makes 54 = .ok (.iadd, 1) := by decide +kernel
theorem dX11_makes_55 : decode cX11_makes 55 = .ok (.iconst 0, 1) := by decide +kernel
theorem dX11_makes_56 : decode cX11_makes 56 = .ok (.iastore, 1) := by decide +kernel
theorem dX11_makes_57 : decode cX11_makes 57 = .ok (.iinc 6 1, 3) := by decide +kernel
theorem dX11_makes_60 : decode cX11_makes 60 = .ok (.goto (-26), 3) := by decide +kernel
theorem dX11_makes_63 : decode cX11_makes 63 = .ok (.iconst 0, 1) := by decide +kernel
theorem dX11_makes_64 : decode cX11_makes 64 = .ok (.istore 6, 2) := by decide +kernel
theorem dX11_makes_66 : decode cX11_makes 66 = .ok (.iload 6, 2) := by decide +kernel
theorem dX11_makes_68 : decode cX11_makes 68 = .ok (.iconst 3, 1) := by decide +kernel
theorem dX11_makes_69 : decode cX11_makes 69 = .ok (.if_icmp .ge 25, 3) := by decide +kernel
theorem dX11_makes_72 : decode cX11_makes 72 = .ok (.aload_n 0, 1) := by decide +kernel
theorem dX11_makes_73 : decode cX11_makes 73 = .ok (.getfield 68, 3) := by decide +kernel
theorem dX11_makes_76 : decode cX11_makes 76 = .ok (.iconst 3, 1) := by decide +kernel
theorem dX11_makes_77 : decode cX11_makes 77 = .ok (.aload_n 0, 1) := by decide +kernel
theorem dX11_makes_78 : decode cX11_makes 78 = .ok (.getfield 119, 3) := by decide +kernel
theorem dX11_makes_81 : decode cX11_makes 81 = .ok (.imul, 1) := by decide +kernel
theorem dX11_makes_82 : decode cX11_makes 82 = .ok (.iload 6, 2) := by decide +kernel
theorem dX11_makes_84 : decode cX11_makes 84 = .ok (.iadd, 1) := by decide +kernel
theorem dX11_makes_85 : decode cX11_makes 85 = .ok (.bipush (-3), 2) := by decide +kernel
theorem dX11_makes_87 : decode cX11_makes 87 = .ok (.iastore, 1) := by decide +kernel
theorem dX11_makes_88 : decode cX11_makes 88 = .ok (.iinc 6 1, 3) := by decide +kernel
theorem dX11_makes_91 : decode cX11_makes 91 = .ok (.goto (-25), 3) := by decide +kernel
theorem dX11_makes_94 : decode cX11_makes 94 = .ok (.iload_n 2, 1) := by decide +kernel
theorem dX11_makes_95 : decode cX11_makes 95 = .ok (.ifCond .lt 48, 3) := by decide +kernel
theorem dX11_makes_98 : decode cX11_makes 98 = .ok (.aload_n 0, 1) := by decide +kernel
theorem dX11_makes_99 : decode cX11_makes 99 = .ok (.getfield 65, 3) := by decide +kernel
theorem dX11_makes_102 : decode cX11_makes 102 = .ok (.bipush 6, 2) := by decide +kernel
theorem dX11_makes_104 : decode cX11_makes 104 = .ok (.aload_n 0, 1) := by decide +kernel
theorem dX11_makes_105 : decode cX11_makes 105 = .ok (.getfield 119, 3) := by decide +kernel
theorem dX11_makes_108 : decode cX11_makes 108 = .ok (.imul, 1) := by decide +kernel
theorem dX11_makes_109 : decode cX11_makes 109 = .ok (.aload_n 0, 1) := by decide +kernel
theorem dX11_makes_110 : decode cX11_makes 110 = .ok (.getfield 65, 3) := by decide +kernel
theorem dX11_makes_113 : decode cX11_makes 113 = .ok (.bipush 6, 2) := by decide +kernel
theorem dX11_makes_115 : decode cX11_makes 115 = .ok (.iload_n 2, 1) := by decide +kernel
theorem dX11_makes_116 : decode cX11_makes 116 = .ok (.imul, 1) := by decide +kernel
theorem dX11_makes_117 : decode cX11_makes 117 = .ok (.iload_n 3, 1) := by decide +kernel
theorem dX11_makes_118 : decode cX11_makes 118 = .ok (.iadd, 1) := by decide +kernel
theorem dX11_makes_119 : decode cX11_makes 119 = .ok (.iaload, 1) := by decide +kernel
theorem dX11_makes_120 : decode cX11_makes 120 = .ok (.iastore, 1) := by decide +kernel
theorem dX11_makes_121 : decode cX11_makes 121 = .ok (.aload_n 0, 1) := by decide +kernel
theorem dX11_makes_122 : decode cX11_makes 122 = .ok (.getfield 68, 3) := by decide +kernel
theorem dX11_makes_125 : decode cX11_makes 125 = .ok (.iconst 3, 1) := by decide +kernel
theorem dX11_makes_126 : decode cX11_makes 126 = .ok (.aload_n 0, 1) := by decide +kernel
theorem dX11_makes_127 : decode cX11_makes 127 = .ok (.getfield 119, 3) := by decide +kernel
theorem dX11_makes_130 : decode cX11_makes 130 = .ok (.imul, 1) := by decide +kernel
theorem dX11_makes_131 : decode cX11_makes 131 = .ok (.aload_n 0, 1) := by decide +kernel
theorem dX11_makes_132 : decode cX11_makes 132 = .ok (.getfield 68, 3) := by decide +kernel
theorem dX11_makes_135 : decode cX11_makes 135 = .ok (.iconst 3, 1) := by decide +kernel
theorem dX11_makes_136 : decode cX11_makes 136 = .ok (.iload_n 2, 1) := by decide +kernel
theorem dX11_makes_137 : decode cX11_makes 137 = .ok (.imul, 1) := by decide +kernel
theorem dX11_makes_138 : decode cX11_makes 138 = .ok (.iload 4, 2) := by decide +kernel
theorem dX11_makes_140 : decode cX11_makes 140 = .ok (.iadd, 1) := by decide +kernel
theorem dX11_makes_141 : decode cX11_makes 141 = .ok (.iaload, 1) := by decide +kernel
theorem dX11_makes_142 : decode cX11_makes 142 = .ok (.iastore, 1) := by decide +kernel
theorem dX11_makes_143 : decode cX11_makes 143 = .ok (.aload_n 0, 1) := by decide +kernel
theorem dX11_makes_144 : decode cX11_makes 144 = .ok (.getfield 71, 3) := by decide +kernel
theorem dX11_makes_147 : decode cX11_makes 147 = .ok (.aload_n 0, 1) := by decide +kernel
theorem dX11_makes_148 : decode cX11_makes 148 = .ok (.getfield 119, 3) := by decide +kernel
theorem dX11_makes_151 : decode cX11_makes 151 = .ok (.iload 5, 2) := by decide +kernel
theorem dX11_makes_153 : decode cX11_makes 153 = .ok (.bastore, 1) := by decide +kernel
theorem dX11_makes_154 : decode cX11_makes 154 = .ok (.aload_n 0, 1) := by decide +kernel
theorem dX11_makes_155 : decode cX11_makes 155 = .ok (.getfield 75, 3) := by decide +kernel
theorem dX11_makes_158 : decode cX11_makes 158 = .ok (.aload_n 0, 1) := by decide +kernel
theorem dX11_makes_159 : decode cX11_makes 159 = .ok (.getfield 119, 3) := by decide +kernel
theorem dX11_makes_162 : decode cX11_makes 162 = .ok (.iconst 0, 1) := by decide +kernel
theorem dX11_makes_163 : decode cX11_makes 163 = .ok (.bastore, 1) := by decide +kernel
theorem dX11_makes_164 : decode cX11_makes 164 = .ok (.aload_n 0, 1) := by decide +kernel
theorem dX11_makes_165 : decode cX11_makes 165 = .ok (.getfield 87, 3) := by decide +kernel
theorem dX11_makes_168 : decode cX11_makes 168 = .ok (.aload_n 0, 1) := by decide +kernel
theorem dX11_makes_169 : decode cX11_makes 169 = .ok (.getfield 119, 3) := by decide +kernel
theorem dX11_makes_172 : decode cX11_makes 172 = .ok (.iconst 0, 1) := by decide +kernel
theorem dX11_makes_173 : decode cX11_makes 173 = .ok (.iastore, 1) := by decide +kernel
theorem dX11_makes_174 : decode cX11_makes 174 = .ok (.aload_n 0, 1) := by decide +kernel
theorem dX11_makes_175 : decode cX11_makes 175 = .ok (.dup, 1) := by decide +kernel
theorem dX11_makes_176 : decode cX11_makes 176 = .ok (.getfield 119, 3) := by decide +kernel
theorem dX11_makes_179 : decode cX11_makes 179 = .ok (.iconst 1, 1) := by decide +kernel
theorem dX11_makes_180 : decode cX11_makes 180 = .ok (.iadd, 1) := by decide +kernel
theorem dX11_makes_181 : decode cX11_makes 181 = .ok (.putfield 119, 3) := by decide +kernel
theorem dX11_makes_184 : decode cX11_makes 184 = .ok (.aload_n 0, 1) := by decide +kernel
theorem dX11_makes_185 : decode cX11_makes 185 = .ok (.getfield 107, 3) := by decide +kernel
theorem dX11_makes_188 : decode cX11_makes 188 = .ok (.iconst 4, 1) := by decide +kernel
theorem dX11_makes_189 : decode cX11_makes 189 = .ok (.dup2, 1) := by decide +kernel
theorem dX11_makes_190 : decode cX11_makes 190 = .ok (.iaload, 1) := by decide +kernel
theorem dX11_makes_191 : decode cX11_makes 191 = .ok (.iconst 1, 1) := by decide +kernel
theorem dX11_makes_192 : decode cX11_makes 192 = .ok (.iadd, 1) := by decide +kernel
theorem dX11_makes_193 : decode cX11_makes 193 = .ok (.iastore, 1) := by decide +kernel
theorem dX11_makes_194 : decode cX11_makes 194 = .ok (.aload_n 0, 1) := by decide +kernel
theorem dX11_makes_195 : decode cX11_makes 195 = .ok (.getfield 107, 3) := by decide +kernel
theorem dX11_makes_198 : decode cX11_makes 198 = .ok (.bipush 8, 2) := by decide +kernel
theorem dX11_makes_200 : decode cX11_makes 200 = .ok (.aload_n 0, 1) := by decide +kernel
theorem dX11_makes_201 : decode cX11_makes 201 = .ok (.getfield 119, 3) := by decide +kernel
theorem dX11_makes_204 : decode cX11_makes 204 = .ok (.aload_n 0, 1) := by decide +kernel
theorem dX11_makes_205 : decode cX11_makes 205 = .ok (.getfield 107, 3) := by decide +kernel
theorem dX11_makes_208 : decode cX11_makes 208 = .ok (.bipush 8, 2) := by decide +kernel
theorem dX11_makes_210 : decode cX11_makes 210 = .ok (.iaload, 1) := by decide +kernel
theorem dX11_makes_211 : decode cX11_makes 211 = .ok (.if_icmp .le 10, 3) := by decide +kernel
theorem dX11_makes_214 : decode cX11_makes 214 = .ok (.aload_n 0, 1) := by decide +kernel
theorem dX11_makes_215 : decode cX11_makes 215 = .ok (.getfield 119, 3) := by decide +kernel
theorem dX11_makes_218 : decode cX11_makes 218 = .ok (.goto 10, 3) := by decide +kernel
theorem dX11_makes_221 : decode cX11_makes 221 = .ok (.aload_n 0, 1) := by decide +kernel
theorem dX11_makes_222 : decode cX11_makes 222 = .ok (.getfield 107, 3) := by decide +kernel
theorem dX11_makes_225 : decode cX11_makes 225 = .ok (.bipush 8, 2) := by decide +kernel
theorem dX11_makes_227 : decode cX11_makes 227 = .ok (.iaload, 1) := by decide +kernel
theorem dX11_makes_228 : decode cX11_makes 228 = .ok (.iastore, 1) := by decide +kernel
theorem dX11_makes_229 : decode cX11_makes 229 = .ok (.iconst 1, 1) := by decide +kernel
theorem dX11_makes_230 : decode cX11_makes 230 = .ok (.ireturn, 1) := by decide +kernel
theorem dX11_holds_0 : decode cX11_holds 0 = .ok (.iload_n 2, 1) := by decide +kernel
theorem dX11_holds_1 : decode cX11_holds 1 = .ok (.bipush 99, 2) := by decide +kernel
theorem dX11_holds_3 : decode cX11_holds 3 = .ok (.if_icmp .eq 17, 3) := by decide +kernel
theorem dX11_holds_6 : decode cX11_holds 6 = .ok (.iload_n 2, 1) := by decide +kernel
theorem dX11_holds_7 : decode cX11_holds 7 = .ok (.iload_n 0, 1) := by decide +kernel
theorem dX11_holds_8 : decode cX11_holds 8 = .ok (.if_icmp .lt 12, 3) := by decide +kernel
theorem dX11_holds_11 : decode cX11_holds 11 = .ok (.iload_n 2, 1) := by decide +kernel
theorem dX11_holds_12 : decode cX11_holds 12 = .ok (.iload_n 1, 1) := by decide +kernel
theorem dX11_holds_13 : decode cX11_holds 13 = .ok (.if_icmp .ge 7, 3) := by decide +kernel
theorem dX11_holds_16 : decode cX11_holds 16 = .ok (.iconst 1, 1) := by decide +kernel
theorem dX11_holds_17 : decode cX11_holds 17 = .ok (.goto 4, 3) := by decide +kernel
theorem dX11_holds_20 : decode cX11_holds 20 = .ok (.iconst 0, 1) := by decide +kernel
theorem dX11_holds_21 : decode cX11_holds 21 = .ok (.ireturn, 1) := by decide +kernel
theorem dX11_leave_0 : decode cX11_leave 0 = .ok (.aload_n 0, 1) := by decide +kernel
theorem dX11_leave_1 : decode cX11_leave 1 = .ok (.getfield 75, 3) := by decide +kernel
theorem dX11_leave_4 : decode cX11_leave 4 = .ok (.iload_n 1, 1) := by decide +kernel
theorem dX11_leave_5 : decode cX11_leave 5 = .ok (.iconst 1, 1) := by decide +kernel
theorem dX11_leave_6 : decode cX11_leave 6 = .ok (.bastore, 1) := by decide +kernel
theorem dX11_leave_7 : decode cX11_leave 7 = .ok (.aload_n 0, 1) := by decide +kernel
theorem dX11_leave_8 : decode cX11_leave 8 = .ok (.getfield 78, 3) := by decide +kernel
theorem dX11_leave_11 : decode cX11_leave 11 = .ok (.iload_n 1, 1) := by decide +kernel
theorem dX11_leave_12 : decode cX11_leave 12 = .ok (.iload_n 2, 1) := by decide +kernel
theorem dX11_leave_13 : decode cX11_leave 13 = .ok (.aload_n 0, 1) := by decide +kernel
theorem dX11_leave_14 : decode cX11_leave 14 = .ok (.getfield 7, 3) := by decide +kernel
theorem dX11_leave_17 : decode cX11_leave 17 = .ok (.aload_n 0, 1) := by decide +kernel
theorem dX11_leave_18 : decode cX11_leave 18 = .ok (.getfield 59, 3) := by decide +kernel
theorem dX11_leave_21 : decode cX11_leave 21 = .ok (.iload_n 1, 1) := by decide +kernel
theorem dX11_leave_22 : decode cX11_leave 22 = .ok (.iaload, 1) := by decide +kernel
theorem dX11_leave_23 : decode cX11_leave 23 = .ok (.iaload, 1) := by decide +kernel
theorem dX11_leave_24 : decode cX11_leave 24 = .ok (.if_icmp .lt 8, 3) := by decide +kernel
theorem dX11_leave_27 : decode cX11_leave 27 = .ok (.bipush 99, 2) := by decide +kernel
theorem dX11_leave_29 : decode cX11_leave 29 = .ok (.goto 4, 3) := by decide +kernel
theorem dX11_leave_32 : decode cX11_leave 32 = .ok (.iload_n 2, 1) := by decide +kernel
theorem dX11_leave_33 : decode cX11_leave 33 = .ok (.iastore, 1) := by decide +kernel
theorem dX11_leave_34 : decode cX11_leave 34 = .ok (.aload_n 0, 1) := by decide +kernel
theorem dX11_leave_35 : decode cX11_leave 35 = .ok (.getfield 81, 3) := by decide +kernel
theorem dX11_leave_38 : decode cX11_leave 38 = .ok (.iload_n 1, 1) := by decide +kernel
theorem dX11_leave_39 : decode cX11_leave 39 = .ok (.iload_n 3, 1) := by decide +kernel
theorem dX11_leave_40 : decode cX11_leave 40 = .ok (.iastore, 1) := by decide +kernel
theorem dX11_leave_41 : decode cX11_leave 41 = .ok (.aload_n 0, 1) := by decide +kernel
theorem dX11_leave_42 : decode cX11_leave 42 = .ok (.getfield 84, 3) := by decide +kernel
theorem dX11_leave_45 : decode cX11_leave 45 = .ok (.iload_n 1, 1) := by decide +kernel
theorem dX11_leave_46 : decode cX11_leave 46 = .ok (.iload 4, 2) := by decide +kernel
theorem dX11_leave_48 : decode cX11_leave 48 = .ok (.iastore, 1) := by decide +kernel
theorem dX11_leave_49 : decode cX11_leave 49 = .ok (.aload_n 0, 1) := by decide +kernel
theorem dX11_leave_50 : decode cX11_leave 50 = .ok (.getfield 87, 3) := by decide +kernel
theorem dX11_leave_53 : decode cX11_leave 53 = .ok (.iload_n 1, 1) := by decide +kernel
theorem dX11_leave_54 : decode cX11_leave 54 = .ok (.iconst 0, 1) := by decide +kernel
theorem dX11_leave_55 : decode cX11_leave 55 = .ok (.iastore, 1) := by decide +kernel
theorem dX11_leave_56 : decode cX11_leave 56 = .ok (.aload_n 0, 1) := by decide +kernel
theorem dX11_leave_57 : decode cX11_leave 57 = .ok (.getfield 90, 3) := by decide +kernel
theorem dX11_leave_60 : decode cX11_leave 60 = .ok (.iload_n 1, 1) := by decide +kernel
theorem dX11_leave_61 : decode cX11_leave 61 = .ok (.aload_n 0, 1) := by decide +kernel
theorem dX11_leave_62 : decode cX11_leave 62 = .ok (.getfield 43, 3) := by decide +kernel
theorem dX11_leave_65 : decode cX11_leave 65 = .ok (.aload_n 0, 1) := by decide +kernel
theorem dX11_leave_66 : decode cX11_leave 66 = .ok (.getfield 59, 3) := by decide +kernel
theorem dX11_leave_69 : decode cX11_leave 69 = .ok (.iload_n 1, 1) := by decide +kernel
theorem dX11_leave_70 : decode cX11_leave 70 = .ok (.iaload, 1) := by decide +kernel
theorem dX11_leave_71 : decode cX11_leave 71 = .ok (.iaload, 1) := by decide +kernel
theorem dX11_leave_72 : decode cX11_leave 72 = .ok (.iconst 1, 1) := by decide +kernel
theorem dX11_leave_73 : decode cX11_leave 73 = .ok (.isub, 1) := by decide +kernel
theorem dX11_leave_74 : decode cX11_leave 74 = .ok (.iastore, 1) := by decide +kernel
theorem dX11_leave_75 : decode cX11_leave 75 = .ok (.return_, 1) := by decide +kernel
theorem dX11_leaveOn_0 : decode cX11_leaveOn 0 = .ok (.aload_n 0, 1) := by decide +kernel
theorem dX11_leaveOn_1 : decode cX11_leaveOn 1 = .ok (.getfield 90, 3) := by decide +kernel
theorem dX11_leaveOn_4 : decode cX11_leaveOn 4 = .ok (.iload_n 1, 1) := by decide +kernel
theorem dX11_leaveOn_5 : decode cX11_leaveOn 5 = .ok (.iaload, 1) := by decide +kernel
theorem dX11_leaveOn_6 : decode cX11_leaveOn 6 = .ok (.ifCond .lt 116, 3) := by decide +kernel
theorem dX11_leaveOn_9 : decode cX11_leaveOn 9 = .ok (.bipush 6, 2) := by decide +kernel
theorem dX11_leaveOn_11 : decode cX11_leaveOn 11 = .ok (.aload_n 0, 1) := by decide +kernel
theorem dX11_leaveOn_12 : decode cX11_leaveOn 12 = .ok (.getfield 59, 3) := by decide +kernel
theorem dX11_leaveOn_15 : decode cX11_leaveOn 15 = .ok (.iload_n 1, 1) := by decide +kernel
theorem dX11_leaveOn_16 : decode cX11_leaveOn 16 = .ok (.iaload, 1) := by decide +kernel
theorem dX11_leaveOn_17 : decode cX11_leaveOn 17 = .ok (.imul, 1) := by decide +kernel
theorem dX11_leaveOn_18 : decode cX11_leaveOn 18 = .ok (.aload_n 0, 1) := by decide +kernel
theorem dX11_leaveOn_19 : decode cX11_leaveOn 19 = .ok (.getfield 90, 3) := by decide +kernel
theorem dX11_leaveOn_22 : decode cX11_leaveOn 22 = .ok (.iload_n 1, 1) := by decide +kernel
theorem dX11_leaveOn_23 : decode cX11_leaveOn 23 = .ok (.iaload, 1) := by decide +kernel
theorem dX11_leaveOn_24 : decode cX11_leaveOn 24 = .ok (.iadd, 1) := by decide +kernel
theorem dX11_leaveOn_25 : decode cX11_leaveOn 25 = .ok (.istore_n 2, 1) := by decide +kernel
theorem dX11_leaveOn_26 : decode cX11_leaveOn 26 = .ok (.aload_n 0, 1) := by decide +kernel
theorem dX11_leaveOn_27 : decode cX11_leaveOn 27 = .ok (.getfield 46, 3) := by decide +kernel
theorem dX11_leaveOn_30 : decode cX11_leaveOn 30 = .ok (.iload_n 2, 1) := by decide +kernel
theorem dX11_leaveOn_31 : decode cX11_leaveOn 31 = .ok (.iaload, 1) := by decide +kernel
theorem dX11_leaveOn_32 : decode cX11_leaveOn 32 = .ok (.aload_n 0, 1) := by decide +kernel
theorem dX11_leaveOn_33 : decode cX11_leaveOn 33 = .ok (.getfield 49, 3) := by decide +kernel
theorem dX11_leaveOn_36 : decode cX11_leaveOn 36 = .ok (.iload_n 2, 1) := by decide +kernel
theorem dX11_leaveOn_37 : decode cX11_leaveOn 37 = .ok (.iaload, 1) := by decide +kernel
theorem dX11_leaveOn_38 : decode cX11_leaveOn 38 = .ok (.aload_n 0, 1) := by decide +kernel
theorem dX11_leaveOn_39 : decode cX11_leaveOn 39 = .ok (.getfield 62, 3) := by decide +kernel
theorem dX11_leaveOn_42 : decode cX11_leaveOn 42 = .ok (.iload_n 1, 1) := by decide +kernel
theorem dX11_leaveOn_43 : decode cX11_leaveOn 43 = .ok (.iaload, 1) := by decide +kernel
theorem dX11_leaveOn_44 : decode cX11_leaveOn 44 = .ok (.invokestatic 175, 3) := by decide +kernel
theorem dX11_leaveOn_47 : decode cX11_leaveOn 47 = .ok (.ifCond .eq 62, 3) := by decide +kernel
theorem dX11_leaveOn_50 : decode cX11_leaveOn 50 = .ok (.aload_n 0, 1) := by decide +kernel
theorem dX11_leaveOn_51 : decode cX11_leaveOn 51 = .ok (.getfield 46, 3) := by decide +kernel
theorem dX11_leaveOn_54 : decode cX11_leaveOn 54 = .ok (.iload_n 2, 1) := by decide +kernel
theorem dX11_leaveOn_55 : decode cX11_leaveOn 55 = .ok (.iaload, 1) := by decide +kernel
theorem dX11_leaveOn_56 : decode cX11_leaveOn 56 = .ok (.aload_n 0, 1) := by decide +kernel
theorem dX11_leaveOn_57 : decode cX11_leaveOn 57 = .ok (.getfield 49, 3) := by decide +kernel
theorem dX11_leaveOn_60 : decode cX11_leaveOn 60 = .ok (.iload_n 2, 1) := by decide +kernel
theorem dX11_leaveOn_61 : decode cX11_leaveOn 61 = .ok (.iaload, 1) := by decide +kernel
theorem dX11_leaveOn_62 : decode cX11_leaveOn 62 = .ok (.aload_n 0, 1) := by decide +kernel
theorem dX11_leaveOn_63 : decode cX11_leaveOn 63 = .ok (.getfield 78, 3) := by decide +kernel
theorem dX11_leaveOn_66 : decode cX11_leaveOn 66 = .ok (.iload_n 1, 1) := by decide +kernel
theorem dX11_leaveOn_67 : decode cX11_leaveOn 67 = .ok (.iaload, 1) := by decide +kernel
theorem dX11_leaveOn_68 : decode cX11_leaveOn 68 = .ok (.invokestatic 175, 3) := by decide +kernel
theorem dX11_leaveOn_71 : decode cX11_leaveOn 71 = .ok (.ifCond .ne 38, 3) := by decide +kernel
theorem dX11_leaveOn_74 : decode cX11_leaveOn 74 = .ok (.aload_n 0, 1) := by decide +kernel
theorem dX11_leaveOn_75 : decode cX11_leaveOn 75 = .ok (.invokevirtual 178, 3) := by decide +kernel
theorem dX11_leaveOn_78 : decode cX11_leaveOn 78 = .ok (.ifCond .ne 4, 3) := by decide +kernel
theorem dX11_leaveOn_81 : decode cX11_leaveOn 81 = .ok (.return_, 1) := by decide +kernel
theorem dX11_leaveOn_82 : decode cX11_leaveOn 82 = .ok (.aload_n 0, 1) := by decide +kernel
theorem dX11_leaveOn_83 : decode cX11_leaveOn 83 = .ok (.iload_n 1, 1) := by decide +kernel
theorem dX11_leaveOn_84 : decode cX11_leaveOn 84 = .ok (.invokevirtual 182, 3) := by decide +kernel
theorem dX11_leaveOn_87 : decode cX11_leaveOn 87 = .ok (.ifCond .eq 4, 3) := by decide +kernel
theorem dX11_leaveOn_90 : decode cX11_leaveOn 90 = .ok (.return_, 1) := by decide +kernel
theorem dX11_leaveOn_91 : decode cX11_leaveOn 91 = .ok (.aload_n 0, 1) := by decide +kernel
theorem dX11_leaveOn_92 : decode cX11_leaveOn 92 = .ok (.getfield 90, 3) := by decide +kernel
theorem dX11_leaveOn_95 : decode cX11_leaveOn 95 = .ok (.iload_n 1, 1) := by decide +kernel
theorem dX11_leaveOn_96 : decode cX11_leaveOn 96 = .ok (.dup2, 1) := by decide +kernel
theorem dX11_leaveOn_97 : decode cX11_leaveOn 97 = .ok (.iaload, 1) := by decide +kernel
theorem dX11_leaveOn_98 : decode cX11_leaveOn 98 = .ok (.iconst 1, 1) := by decide +kernel
theorem dX11_leaveOn_99 : decode cX11_leaveOn 99 = .ok (.isub, 1) := by decide +kernel
theorem dX11_leaveOn_100 : decode cX11_leaveOn 100 = .ok (.iastore, 1) := by decide +kernel
theorem dX11_leaveOn_101 : decode cX11_leaveOn 101 = .ok (.aload_n 0, 1) := by decide +kernel
theorem dX11_leaveOn_102 : decode cX11_leaveOn 102 = .ok (.iload_n 1, 1) := by decide +kernel
theorem dX11_leaveOn_103 : decode cX11_leaveOn 103 = .ok (.bipush 7, 2) := by decide +kernel
theorem dX11_leaveOn_105 : decode cX11_leaveOn 105 = .ok (.invokevirtual 185, 3) := by decide +kernel
theorem dX11_leaveOn_108 : decode cX11_leaveOn 108 = .ok (.return_, 1) := by decide +kernel
theorem dX11_leaveOn_109 : decode cX11_leaveOn 109 = .ok (.aload_n 0, 1) := by decide +kernel
theorem dX11_leaveOn_110 : decode cX11_leaveOn 110 = .ok (.getfield 90, 3) := by decide +kernel
theorem dX11_leaveOn_113 : decode cX11_leaveOn 113 = .ok (.iload_n 1, 1) := by decide +kernel
theorem dX11_leaveOn_114 : decode cX11_leaveOn 114 = .ok (.dup2, 1) := by decide +kernel
theorem dX11_leaveOn_115 : decode cX11_leaveOn 115 = .ok (.iaload, 1) := by decide +kernel
theorem dX11_leaveOn_116 : decode cX11_leaveOn 116 = .ok (.iconst 1, 1) := by decide +kernel
theorem dX11_leaveOn_117 : decode cX11_leaveOn 117 = .ok (.isub, 1) := by decide +kernel
theorem dX11_leaveOn_118 : decode cX11_leaveOn 118 = .ok (.iastore, 1) := by decide +kernel
theorem dX11_leaveOn_119 : decode cX11_leaveOn 119 = .ok (.goto (-119), 3) := by decide +kernel
theorem dX11_leaveOn_122 : decode cX11_leaveOn 122 = .ok (.aload_n 0, 1) := by decide +kernel
theorem dX11_leaveOn_123 : decode cX11_leaveOn 123 = .ok (.getfield 75, 3) := by decide +kernel
theorem dX11_leaveOn_126 : decode cX11_leaveOn 126 = .ok (.iload_n 1, 1) := by decide +kernel
theorem dX11_leaveOn_127 : decode cX11_leaveOn 127 = .ok (.iconst 0, 1) := by decide +kernel
theorem dX11_leaveOn_128 : decode cX11_leaveOn 128 = .ok (.bastore, 1) := by decide +kernel
theorem dX11_leaveOn_129 : decode cX11_leaveOn 129 = .ok (.aload_n 0, 1) := by decide +kernel
theorem dX11_leaveOn_130 : decode cX11_leaveOn 130 = .ok (.getfield 81, 3) := by decide +kernel
theorem dX11_leaveOn_133 : decode cX11_leaveOn 133 = .ok (.iload_n 1, 1) := by decide +kernel
theorem dX11_leaveOn_134 : decode cX11_leaveOn 134 = .ok (.iaload, 1) := by decide +kernel
theorem dX11_leaveOn_135 : decode cX11_leaveOn 135 = .ok (.iconst 2, 1) := by decide +kernel
theorem dX11_leaveOn_136 : decode cX11_leaveOn 136 = .ok (.if_icmp .ne 27, 3) := by decide +kernel
theorem dX11_leaveOn_139 : decode cX11_leaveOn 139 = .ok (.aload_n 0, 1) := by decide +kernel
theorem dX11_leaveOn_140 : decode cX11_leaveOn 140 = .ok (.dup, 1) := by decide +kernel
theorem dX11_leaveOn_141 : decode cX11_leaveOn 141 = .ok (.getfield 119, 3) := by decide +kernel
theorem dX11_leaveOn_144 : decode cX11_leaveOn 144 = .ok (.iconst 1, 1) := by decide +kernel
theorem dX11_leaveOn_145 : decode cX11_leaveOn 145 = .ok (.isub, 1) := by decide +kernel
theorem dX11_leaveOn_146 : decode cX11_leaveOn 146 = .ok (.putfield 119, 3) := by decide +kernel
theorem dX11_leaveOn_149 : decode cX11_leaveOn 149 = .ok (.aload_n 0, 1) := by decide +kernel
theorem dX11_leaveOn_150 : decode cX11_leaveOn 150 = .ok (.iload_n 1, 1) := by decide +kernel
theorem dX11_leaveOn_151 : decode cX11_leaveOn 151 = .ok (.aload_n 0, 1) := by decide +kernel
theorem dX11_leaveOn_152 : decode cX11_leaveOn 152 = .ok (.getfield 84, 3) := by decide +kernel
theorem dX11_leaveOn_155 : decode cX11_leaveOn 155 = .ok (.iload_n 1, 1) := by decide +kernel
theorem dX11_leaveOn_156 : decode cX11_leaveOn 156 = .ok (.iaload, 1) := by decide +kernel
theorem dX11_leaveOn_157 : decode cX11_leaveOn 157 = .ok (.invokevirtual 188, 3) := by decide +kernel
theorem dX11_leaveOn_160 : decode cX11_leaveOn 160 = .ok (.goto 115, 3) := by decide +kernel
theorem dX11_leaveOn_163 : decode cX11_leaveOn 163 = .ok (.aload_n 0, 1) := by decide +kernel
theorem dX11_leaveOn_164 : decode cX11_leaveOn 164 = .ok (.getfield 81, 3) := by decide +kernel
theorem dX11_leaveOn_167 : decode cX11_leaveOn 167 = .ok (.iload_n 1, 1) := by decide +kernel
theorem dX11_leaveOn_168 : decode cX11_leaveOn 168 = .ok (.iaload, 1) := by decide +kernel
theorem dX11_leaveOn_169 : decode cX11_leaveOn 169 = .ok (.iconst 1, 1) := by decide +kernel
theorem dX11_leaveOn_170 : decode cX11_leaveOn 170 = .ok (.if_icmp .eq 14, 3) := by decide +kernel
theorem dX11_leaveOn_173 : decode cX11_leaveOn 173 = .ok (.aload_n 0, 1) := by decide +kernel
theorem dX11_leaveOn_174 : decode cX11_leaveOn 174 = .ok (.getfield 78, 3) := by decide +kernel
theorem dX11_leaveOn_177 : decode cX11_leaveOn 177 = .ok (.iload_n 1, 1) := by decide +kernel
theorem dX11_leaveOn_178 : decode cX11_leaveOn 178 = .ok (.iaload, 1) := by decide +kernel
theorem dX11_leaveOn_179 : decode cX11_leaveOn 179 = .ok (.bipush 99, 2) := by decide +kernel
theorem dX11_leaveOn_181 : decode cX11_leaveOn 181 = .ok (.if_icmp .ne 41, 3) := by decide +kernel
theorem dX11_leaveOn_184 : decode cX11_leaveOn 184 = .ok (.aload_n 0, 1) := by decide +kernel
theorem dX11_leaveOn_185 : decode cX11_leaveOn 185 = .ok (.dup, 1) := by decide +kernel
theorem dX11_leaveOn_186 : decode cX11_leaveOn 186 = .ok (.getfield 119, 3) := by decide +kernel
theorem dX11_leaveOn_189 : decode cX11_leaveOn 189 = .ok (.iconst 1, 1) := by decide +kernel
theorem dX11_leaveOn_190 : decode cX11_leaveOn 190 = .ok (.isub, 1) := by decide +kernel
theorem dX11_leaveOn_191 : decode cX11_leaveOn 191 = .ok (.putfield 119, 3) := by decide +kernel
theorem dX11_leaveOn_194 : decode cX11_leaveOn 194 = .ok (.aload_n 0, 1) := by decide +kernel
theorem dX11_leaveOn_195 : decode cX11_leaveOn 195 = .ok (.iload_n 1, 1) := by decide +kernel
theorem dX11_leaveOn_196 : decode cX11_leaveOn 196 = .ok (.aload_n 0, 1) := by decide +kernel
theorem dX11_leaveOn_197 : decode cX11_leaveOn 197 = .ok (.getfield 81, 3) := by decide +kernel
theorem dX11_leaveOn_200 : decode cX11_leaveOn 200 = .ok (.iload_n 1, 1) := by decide +kernel
theorem dX11_leaveOn_201 : decode cX11_leaveOn 201 = .ok (.iaload, 1) := by decide +kernel
theorem dX11_leaveOn_202 : decode cX11_leaveOn 202 = .ok (.iconst 1, 1) := by decide +kernel
theorem dX11_leaveOn_203 : decode cX11_leaveOn 203 = .ok (.if_icmp .ne 12, 3) := by decide +kernel
theorem dX11_leaveOn_206 : decode cX11_leaveOn 206 = .ok (.aload_n 0, 1) := by decide +kernel
theorem dX11_leaveOn_207 : decode cX11_leaveOn 207 = .ok (.getfield 84, 3) := by decide +kernel
theorem dX11_leaveOn_210 : decode cX11_leaveOn 210 = .ok (.iload_n 1, 1) := by decide +kernel
theorem dX11_leaveOn_211 : decode cX11_leaveOn 211 = .ok (.iaload, 1) := by decide +kernel
theorem dX11_leaveOn_212 : decode cX11_leaveOn 212 = .ok (.goto 4, 3) := by decide +kernel
theorem dX11_leaveOn_215 : decode cX11_leaveOn 215 = .ok (.iconst 0, 1) := by decide +kernel
theorem dX11_leaveOn_216 : decode cX11_leaveOn 216 = .ok (.invokevirtual 191, 3) := by decide +kernel
theorem dX11_leaveOn_219 : decode cX11_leaveOn 219 = .ok (.goto 56, 3) := by decide +kernel
theorem dX11_leaveOn_222 : decode cX11_leaveOn 222 = .ok (.aload_n 0, 1) := by decide +kernel
theorem dX11_leaveOn_223 : decode cX11_leaveOn 223 = .ok (.getfield 62, 3) := by decide +kernel
theorem dX11_leaveOn_226 : decode cX11_leaveOn 226 = .ok (.iload_n 1, 1) := by decide +kernel
theorem dX11_leaveOn_227 : decode cX11_leaveOn 227 = .ok (.aload_n 0, 1) := by decide +kernel
theorem dX11_leaveOn_228 : decode cX11_leaveOn 228 = .ok (.getfield 78, 3) := by decide +kernel
theorem dX11_leaveOn_231 : decode cX11_leaveOn 231 = .ok (.iload_n 1, 1) := by decide +kernel
theorem dX11_leaveOn_232 : decode cX11_leaveOn 232 = .ok (.iaload, 1) := by decide +kernel
theorem dX11_leaveOn_233 : decode cX11_leaveOn 233 = .ok (.iastore, 1) := by decide +kernel
theorem dX11_leaveOn_234 : decode cX11_leaveOn 234 = .ok (.aload_n 0, 1) := by decide +kernel
theorem dX11_leaveOn_235 : decode cX11_leaveOn 235 = .ok (.getfield 65, 3) := by decide +kernel
theorem dX11_leaveOn_238 : decode cX11_leaveOn 238 = .ok (.bipush 6, 2) := by decide +kernel
theorem dX11_leaveOn_240 : decode cX11_leaveOn 240 = .ok (.iload_n 1, 1) := by decide +kernel
theorem dX11_leaveOn_241 : decode cX11_leaveOn 241 = .ok (.imul, 1) := by decide +kernel
theorem dX11_leaveOn_242 : decode cX11_leaveOn 242 = .ok (.iconst 5, 1) := by decide +kernel
theorem dX11_leaveOn_243 : decode cX11_leaveOn 243 = .ok (.iadd, 1) := by decide +kernel
theorem dX11_leaveOn_244 : decode cX11_leaveOn 244 = .ok (.aload_n 0, 1) := by decide +kernel
theorem dX11_leaveOn_245 : decode cX11_leaveOn 245 = .ok (.getfield 81, 3) := by decide +kernel
theorem dX11_leaveOn_248 : decode cX11_leaveOn 248 = .ok (.iload_n 1, 1) := by decide +kernel
theorem dX11_leaveOn_249 : decode cX11_leaveOn 249 = .ok (.iaload, 1) := by decide +kernel
theorem dX11_leaveOn_250 : decode cX11_leaveOn 250 = .ok (.iconst 3, 1) := by decide +kernel
theorem dX11_leaveOn_251 : decode cX11_leaveOn 251 = .ok (.if_icmp .ne 12, 3) := by decide +kernel
theorem dX11_leaveOn_254 : decode cX11_leaveOn 254 = .ok (.aload_n 0, 1) := by decide +kernel
theorem dX11_leaveOn_255 : decode cX11_leaveOn 255 = .ok (.getfield 84, 3) := by decide +kernel
theorem dX11_leaveOn_258 : decode cX11_leaveOn 258 = .ok (.iload_n 1, 1) := by decide +kernel
theorem dX11_leaveOn_259 : decode cX11_leaveOn 259 = .ok (.iaload, 1) := by decide +kernel
theorem dX11_leaveOn_260 : decode cX11_leaveOn 260 = .ok (.goto 14, 3) := by decide +kernel
theorem dX11_leaveOn_263 : decode cX11_leaveOn 263 = .ok (.aload_n 0, 1) := by decide +kernel
theorem dX11_leaveOn_264 : decode cX11_leaveOn 264 = .ok (.getfield 65, 3) := by decide +kernel
theorem dX11_leaveOn_267 : decode cX11_leaveOn 267 = .ok (.bipush 6, 2) := by decide +kernel
theorem dX11_leaveOn_269 : decode cX11_leaveOn 269 = .ok (.iload_n 1, 1) := by decide +kernel
theorem dX11_leaveOn_270 : decode cX11_leaveOn 270 = .ok (.imul, 1) := by decide +kernel
theorem dX11_leaveOn_271 : decode cX11_leaveOn 271 = .ok (.iconst 5, 1) := by decide +kernel
theorem dX11_leaveOn_272 : decode cX11_leaveOn 272 = .ok (.iadd, 1) := by decide +kernel
theorem dX11_leaveOn_273 : decode cX11_leaveOn 273 = .ok (.iaload, 1) := by decide +kernel
theorem dX11_leaveOn_274 : decode cX11_leaveOn 274 = .ok (.iastore, 1) := by decide +kernel
theorem dX11_leaveOn_275 : decode cX11_leaveOn 275 = .ok (.return_, 1) := by decide +kernel
theorem dX11_runsClean_0 : decode cX11_runsClean 0 = .ok (.bipush 6, 2) := by decide +kernel
theorem dX11_runsClean_2 : decode cX11_runsClean 2 = .ok (.aload_n 0, 1) := by decide +kernel
theorem dX11_runsClean_3 : decode cX11_runsClean 3 = .ok (.getfield 59, 3) := by decide +kernel
theorem dX11_runsClean_6 : decode cX11_runsClean 6 = .ok (.iload_n 1, 1) := by decide +kernel
theorem dX11_runsClean_7 : decode cX11_runsClean 7 = .ok (.iaload, 1) := by decide +kernel
theorem dX11_runsClean_8 : decode cX11_runsClean 8 = .ok (.imul, 1) := by decide +kernel
theorem dX11_runsClean_9 : decode cX11_runsClean 9 = .ok (.aload_n 0, 1) := by decide +kernel
theorem dX11_runsClean_10 : decode cX11_runsClean 10 = .ok (.getfield 90, 3) := by decide +kernel
theorem dX11_runsClean_13 : decode cX11_runsClean 13 = .ok (.iload_n 1, 1) := by decide +kernel
theorem dX11_runsClean_14 : decode cX11_runsClean 14 = .ok (.iaload, 1) := by decide +kernel
theorem dX11_runsClean_15 : decode cX11_runsClean 15 = .ok (.iadd, 1) := by decide +kernel
theorem dX11_runsClean_16 : decode cX11_runsClean 16 = .ok (.istore_n 2, 1) := by decide +kernel
theorem dX11_runsClean_17 : decode cX11_runsClean 17 = .ok (.aload_n 0, 1) := by decide +kernel
theorem dX11_runsClean_18 : decode cX11_runsClean 18 = .ok (.aload_n 0, 1) := by decide +kernel
theorem dX11_runsClean_19 : decode cX11_runsClean 19 = .ok (.getfield 52, 3) := by decide +kernel
theorem dX11_runsClean_22 : decode cX11_runsClean 22 = .ok (.iload_n 2, 1) := by decide +kernel
theorem dX11_runsClean_23 : decode cX11_runsClean 23 = .ok (.iaload, 1) := by decide +kernel
theorem dX11_runsClean_24 : decode cX11_runsClean 24 = .ok (.iload_n 1, 1) := by decide +kernel
theorem dX11_runsClean_25 : decode cX11_runsClean 25 = .ok (.iconst 0, 1) := by decide +kernel
theorem dX11_runsClean_26 : decode cX11_runsClean 26 = .ok (.iconst 0, 1) := by decide +kernel
theorem dX11_runsClean_27 : decode cX11_runsClean 27 = .ok (.iconst 1, 1) := by decide +kernel
theorem dX11_runsClean_28 : decode cX11_runsClean 28 = .ok (.invokevirtual 194, 3) := by decide +kernel
theorem dX11_runsClean_31 : decode cX11_runsClean 31 = .ok (.ifCond .ne 5, 3) := by decide +kernel
theorem dX11_runsClean_34 : decode cX11_runsClean 34 = .ok (.iconst 0, 1) := by decide +kernel
theorem dX11_runsClean_35 : decode cX11_runsClean 35 = .ok (.ireturn, 1) := by decide +kernel
theorem dX11_runsClean_36 : decode cX11_runsClean 36 = .ok (.aload_n 0, 1) := by decide +kernel
theorem dX11_runsClean_37 : decode cX11_runsClean 37 = .ok (.getfield 107, 3) := by decide +kernel
theorem dX11_runsClean_40 : decode cX11_runsClean 40 = .ok (.iconst 5, 1) := by decide +kernel
theorem dX11_runsClean_41 : decode cX11_runsClean 41 = .ok (.iaload, 1) := by decide +kernel
theorem dX11_runsClean_42 : decode cX11_runsClean 42 = .ok (.bipush 100, 2) := by decide +kernel
theorem dX11_runsClean_44 : decode cX11_runsClean 44 = .ok (.if_icmp .ge 52, 3) := by decide +kernel
theorem dX11_runsClean_47 : decode cX11_runsClean 47 = .ok (.aload_n 0, 1) := by decide +kernel
theorem dX11_runsClean_48 : decode cX11_runsClean 48 = .ok (.getfield 110, 3) := by decide +kernel
theorem dX11_runsClean_51 : decode cX11_runsClean 51 = .ok (.aload_n 0, 1) := by decide +kernel
theorem dX11_runsClean_52 : decode cX11_runsClean 52 = .ok (.getfield 107, 3) := by decide +kernel
theorem dX11_runsClean_55 : decode cX11_runsClean 55 = .ok (.iconst 5, 1) := by decide +kernel
theorem dX11_runsClean_56 : decode cX11_runsClean 56 = .ok (.iaload, 1) := by decide +kernel
theorem dX11_runsClean_57 : decode cX11_runsClean 57 = .ok (.aload_n 0, 1) := by decide +kernel
theorem dX11_runsClean_58 : decode cX11_runsClean 58 = .ok (.getfield 52, 3) := by decide +kernel
theorem dX11_runsClean_61 : decode cX11_runsClean 61 = .ok (.iload_n 2, 1) := by decide +kernel
theorem dX11_runsClean_62 : decode cX11_runsClean 62 = .ok (.iaload, 1) := by decide +kernel
theorem dX11_runsClean_63 : decode cX11_runsClean 63 = .ok (.iastore, 1) := by decide +kernel
theorem dX11_runsClean_64 : decode cX11_runsClean 64 = .ok (.aload_n 0, 1) := by decide +kernel
theorem dX11_runsClean_65 : decode cX11_runsClean 65 = .ok (.getfield 113, 3) := by decide +kernel
theorem dX11_runsClean_68 : decode cX11_runsClean 68 = .ok (.aload_n 0, 1) := by decide +kernel
theorem dX11_runsClean_69 : decode cX11_runsClean 69 = .ok (.getfield 107, 3) := by decide +kernel
theorem dX11_runsClean_72 : decode cX11_runsClean 72 = .ok (.iconst 5, 1) := by decide +kernel
theorem dX11_runsClean_73 : decode cX11_runsClean 73 = .ok (.iaload, 1) := by decide +kernel
theorem dX11_runsClean_74 : decode cX11_runsClean 74 = .ok (.aload_n 0, 1) := by decide +kernel
theorem dX11_runsClean_75 : decode cX11_runsClean 75 = .ok (.getfield 59, 3) := by decide +kernel
theorem dX11_runsClean_78 : decode cX11_runsClean 78 = .ok (.iload_n 1, 1) := by decide +kernel
theorem dX11_runsClean_79 : decode cX11_runsClean 79 = .ok (.iaload, 1) := by decide +kernel
theorem dX11_runsClean_80 : decode cX11_runsClean 80 = .ok (.iastore, 1) := by decide +kernel
theorem dX11_runsClean_81 : decode cX11_runsClean 81 = .ok (.aload_n 0, 1) := by decide +kernel
theorem dX11_runsClean_82 : decode cX11_runsClean 82 = .ok (.getfield 116, 3) := by decide +kernel
theorem dX11_runsClean_85 : decode cX11_runsClean 85 = .ok (.aload_n 0, 1) := by decide +kernel
theorem dX11_runsClean_86 : decode cX11_runsClean 86 = .ok (.getfield 107, 3) := by decide +kernel
theorem dX11_runsClean_89 : decode cX11_runsClean 89 = .ok (.iconst 5, 1) := by decide +kernel
theorem dX11_runsClean_90 : decode cX11_runsClean 90 = .ok (.iaload, 1) := by decide +kernel
theorem dX11_runsClean_91 : decode cX11_runsClean 91 = .ok (.aload_n 0, 1) := by decide +kernel
theorem dX11_runsClean_92 : decode cX11_runsClean 92 = .ok (.getfield 119, 3) := by decide +kernel
theorem dX11_runsClean_95 : decode cX11_runsClean 95 = .ok (.iastore, 1) := by decide +kernel
theorem dX11_runsClean_96 : decode cX11_runsClean 96 = .ok (.aload_n 0, 1) := by decide +kernel
theorem dX11_runsClean_97 : decode cX11_runsClean 97 = .ok (.getfield 107, 3) := by decide +kernel
theorem dX11_runsClean_100 : decode cX11_runsClean 100 = .ok (.iconst 5, 1) := by decide +kernel
theorem dX11_runsClean_101 : decode cX11_runsClean 101 = .ok (.dup2, 1) := by decide +kernel
theorem dX11_runsClean_102 : decode cX11_runsClean 102 = .ok (.iaload, 1) := by decide +kernel
theorem dX11_runsClean_103 : decode cX11_runsClean 103 = .ok (.iconst 1, 1) := by decide +kernel
theorem dX11_runsClean_104 : decode cX11_runsClean 104 = .ok (.iadd, 1) := by decide +kernel
theorem dX11_runsClean_105 : decode cX11_runsClean 105 = .ok (.iastore, 1) := by decide +kernel
theorem dX11_runsClean_106 : decode cX11_runsClean 106 = .ok (.aload_n 0, 1) := by decide +kernel
theorem dX11_runsClean_107 : decode cX11_runsClean 107 = .ok (.getfield 87, 3) := by decide +kernel
theorem dX11_runsClean_110 : decode cX11_runsClean 110 = .ok (.iload_n 1, 1) := by decide +kernel
theorem dX11_runsClean_111 : decode cX11_runsClean 111 = .ok (.dup2, 1) := by decide +kernel
theorem dX11_runsClean_112 : decode cX11_runsClean 112 = .ok (.iaload, 1) := by decide +kernel
theorem dX11_runsClean_113 : decode cX11_runsClean 113 = .ok (.iconst 1, 1) := by decide +kernel
theorem dX11_runsClean_114 : decode cX11_runsClean 114 = .ok (.aload_n 0, 1) := by decide +kernel
theorem dX11_runsClean_115 : decode cX11_runsClean 115 = .ok (.getfield 90, 3) := by decide +kernel
theorem dX11_runsClean_118 : decode cX11_runsClean 118 = .ok (.iload_n 1, 1) := by decide +kernel
theorem dX11_runsClean_119 : decode cX11_runsClean 119 = .ok (.iaload, 1) := by decide +kernel
theorem dX11_runsClean_120 : decode cX11_runsClean 120 = .ok (.ishl, 1) := by decide +kernel
theorem dX11_runsClean_121 : decode cX11_runsClean 121 = .ok (.ior, 1) := by decide +kernel
theorem dX11_runsClean_122 : decode cX11_runsClean 122 = .ok (.iastore, 1) := by decide +kernel
theorem dX11_runsClean_123 : decode cX11_runsClean 123 = .ok (.aload_n 0, 1) := by decide +kernel
theorem dX11_runsClean_124 : decode cX11_runsClean 124 = .ok (.getfield 90, 3) := by decide +kernel
theorem dX11_runsClean_127 : decode cX11_runsClean 127 = .ok (.iload_n 1, 1) := by decide +kernel
theorem dX11_runsClean_128 : decode cX11_runsClean 128 = .ok (.dup2, 1) := by decide +kernel
theorem dX11_runsClean_129 : decode cX11_runsClean 129 = .ok (.iaload, 1) := by decide +kernel
theorem dX11_runsClean_130 : decode cX11_runsClean 130 = .ok (.iconst 1, 1) := by decide +kernel
theorem dX11_runsClean_131 : decode cX11_runsClean 131 = .ok (.isub, 1) := by decide +kernel
theorem dX11_runsClean_132 : decode cX11_runsClean 132 = .ok (.iastore, 1) := by decide +kernel
theorem dX11_runsClean_133 : decode cX11_runsClean 133 = .ok (.iconst 1, 1) := by decide +kernel
theorem dX11_runsClean_134 : decode cX11_runsClean 134 = .ok (.ireturn, 1) := by decide +kernel
theorem dX11_gave_0 : decode cX11_gave 0 = .ok (.aload_n 0, 1) := by decide +kernel
theorem dX11_gave_1 : decode cX11_gave 1 = .ok (.getfield 119, 3) := by decide +kernel
theorem dX11_gave_4 : decode cX11_gave 4 = .ok (.ifCond .ne 23, 3) := by decide +kernel
theorem dX11_gave_7 : decode cX11_gave 7 = .ok (.aload_n 0, 1) := by decide +kernel
theorem dX11_gave_8 : decode cX11_gave 8 = .ok (.getfield 107, 3) := by decide +kernel
theorem dX11_gave_11 : decode cX11_gave 11 = .ok (.iconst 0, 1) := by decide +kernel
theorem dX11_gave_12 : decode cX11_gave 12 = .ok (.iload_n 2, 1) := by decide +kernel
theorem dX11_gave_13 : decode cX11_gave 13 = .ok (.iastore, 1) := by decide +kernel
theorem dX11_gave_14 : decode cX11_gave 14 = .ok (.aload_n 0, 1) := by decide +kernel
theorem dX11_gave_15 : decode cX11_gave 15 = .ok (.iconst 0, 1) := by decide +kernel
theorem dX11_gave_16 : decode cX11_gave 16 = .ok (.putfield 165, 3) := by decide +kernel
theorem dX11_gave_19 : decode cX11_gave 19 = .ok (.aload_n 0, 1) := by decide +kernel
theorem dX11_gave_20 : decode cX11_gave 20 = .ok (.iconst 1, 1) := by decide +kernel
theorem dX11_gave_21 : decode cX11_gave 21 = .ok (.putfield 159, 3) := by decide +kernel
theorem dX11_gave_24 : decode cX11_gave 24 = .ok (.goto 70, 3) := by decide +kernel
theorem dX11_gave_27 : decode cX11_gave 27 = .ok (.aload_n 0, 1) := by decide +kernel
theorem dX11_gave_28 : decode cX11_gave 28 = .ok (.getfield 71, 3) := by decide +kernel
theorem dX11_gave_31 : decode cX11_gave 31 = .ok (.iload_n 1, 1) := by decide +kernel
theorem dX11_gave_32 : decode cX11_gave 32 = .ok (.baload, 1) := by decide +kernel
theorem dX11_gave_33 : decode cX11_gave 33 = .ok (.ifCond .ne 61, 3) := by decide +kernel
theorem dX11_gave_36 : decode cX11_gave 36 = .ok (.aload_n 0, 1) := by decide +kernel
theorem dX11_gave_37 : decode cX11_gave 37 = .ok (.getfield 119, 3) := by decide +kernel
theorem dX11_gave_40 : decode cX11_gave 40 = .ok (.iconst 1, 1) := by decide +kernel
theorem dX11_gave_41 : decode cX11_gave 41 = .ok (.isub, 1) := by decide +kernel
theorem dX11_gave_42 : decode cX11_gave 42 = .ok (.istore_n 3, 1) := by decide +kernel
theorem dX11_gave_43 : decode cX11_gave 43 = .ok (.bipush 48, 2) := by decide +kernel
theorem dX11_gave_45 : decode cX11_gave 45 = .ok (.aload_n 0, 1) := by decide +kernel
theorem dX11_gave_46 : decode cX11_gave 46 = .ok (.getfield 59, 3) := by decide +kernel
theorem dX11_gave_49 : decode cX11_gave 49 = .ok (.iload_n 3, 1) := by decide +kernel
theorem dX11_gave_50 : decode cX11_gave 50 = .ok (.iaload, 1) := by decide +kernel
theorem dX11_gave_51 : decode cX11_gave 51 = .ok (.imul, 1) := by decide +kernel
theorem dX11_gave_52 : decode cX11_gave 52 = .ok (.aload_n 0, 1) := by decide +kernel
theorem dX11_gave_53 : decode cX11_gave 53 = .ok (.getfield 62, 3) := by decide +kernel
theorem dX11_gave_56 : decode cX11_gave 56 = .ok (.iload_n 3, 1) := by decide +kernel
theorem dX11_gave_57 : decode cX11_gave 57 = .ok (.iaload, 1) := by decide +kernel
theorem dX11_gave_58 : decode cX11_gave 58 = .ok (.iadd, 1) := by decide +kernel
theorem dX11_gave_59 : decode cX11_gave 59 = .ok (.istore 4, 2) := by decide +kernel
theorem dX11_gave_61 : decode cX11_gave 61 = .ok (.aload_n 0, 1) := by decide +kernel
theorem dX11_gave_62 : decode cX11_gave 62 = .ok (.getfield 65, 3) := by decide +kernel
theorem dX11_gave_65 : decode cX11_gave 65 = .ok (.bipush 6, 2) := by decide +kernel
theorem dX11_gave_67 : decode cX11_gave 67 = .ok (.iload_n 3, 1) := by decide +kernel
theorem dX11_gave_68 : decode cX11_gave 68 = .ok (.imul, 1) := by decide +kernel
theorem dX11_gave_69 : decode cX11_gave 69 = .ok (.aload_n 0, 1) := by decide +kernel
theorem dX11_gave_70 : decode cX11_gave 70 = .ok (.getfield 16, 3) := by decide +kernel
theorem dX11_gave_73 : decode cX11_gave 73 = .ok (.iload 4, 2) := by decide +kernel
theorem dX11_gave_75 : decode cX11_gave 75 = .ok (.iaload, 1) := by decide +kernel
theorem dX11_gave_76 : decode cX11_gave 76 = .ok (.iadd, 1) := by decide +kernel
theorem dX11_gave_77 : decode cX11_gave 77 = .ok (.iload_n 2, 1) := by decide +kernel
theorem dX11_gave_78 : decode cX11_gave 78 = .ok (.iastore, 1) := by decide +kernel
theorem dX11_gave_79 : decode cX11_gave 79 = .ok (.aload_n 0, 1) := by decide +kernel
theorem dX11_gave_80 : decode cX11_gave 80 = .ok (.iload_n 3, 1) := by decide +kernel
theorem dX11_gave_81 : decode cX11_gave 81 = .ok (.aload_n 0, 1) := by decide +kernel
theorem dX11_gave_82 : decode cX11_gave 82 = .ok (.getfield 62, 3) := by decide +kernel
theorem dX11_gave_85 : decode cX11_gave 85 = .ok (.iload_n 3, 1) := by decide +kernel
theorem dX11_gave_86 : decode cX11_gave 86 = .ok (.iaload, 1) := by decide +kernel
theorem dX11_gave_87 : decode cX11_gave 87 = .ok (.iconst 1, 1) := by decide +kernel
theorem dX11_gave_88 : decode cX11_gave 88 = .ok (.iadd, 1) := by decide +kernel
theorem dX11_gave_89 : decode cX11_gave 89 = .ok (.iconst 0, 1) := by decide +kernel
theorem dX11_gave_90 : decode cX11_gave 90 = .ok (.iconst 0, 1) := by decide +kernel
theorem dX11_gave_91 : decode cX11_gave 91 = .ok (.invokevirtual 198, 3) := by decide +kernel
theorem dX11_gave_94 : decode cX11_gave 94 = .ok (.return_, 1) := by decide +kernel
theorem dX11_thrown_0 : decode cX11_thrown 0 = .ok (.aload_n 0, 1) := by decide +kernel
theorem dX11_thrown_1 : decode cX11_thrown 1 = .ok (.getfield 119, 3) := by decide +kernel
theorem dX11_thrown_4 : decode cX11_thrown 4 = .ok (.ifCond .ne 21, 3) := by decide +kernel
theorem dX11_thrown_7 : decode cX11_thrown 7 = .ok (.aload_n 0, 1) := by decide +kernel
theorem dX11_thrown_8 : decode cX11_thrown 8 = .ok (.getfield 107, 3) := by decide +kernel
theorem dX11_thrown_11 : decode cX11_thrown 11 = .ok (.iconst 1, 1) := by decide +kernel
theorem dX11_thrown_12 : decode cX11_thrown 12 = .ok (.iload_n 2, 1) := by decide +kernel
theorem dX11_thrown_13 : decode cX11_thrown 13 = .ok (.iastore, 1) := by decide +kernel
theorem dX11_thrown_14 : decode cX11_thrown 14 = .ok (.aload_n 0, 1) := by decide +kernel
theorem dX11_thrown_15 : decode cX11_thrown 15 = .ok (.iconst 2, 1) := by decide +kernel
theorem dX11_thrown_16 : decode cX11_thrown 16 = .ok (.putfield 165, 3) := by decide +kernel
theorem dX11_thrown_19 : decode cX11_thrown 19 = .ok (.aload_n 0, 1) := by decide +kernel
theorem dX11_thrown_20 : decode cX11_thrown 20 = .ok (.iconst 1, 1) := by decide +kernel
theorem dX11_thrown_21 : decode cX11_thrown 21 = .ok (.putfield 159, 3) := by decide +kernel
theorem dX11_thrown_24 : decode cX11_thrown 24 = .ok (.return_, 1) := by decide +kernel
theorem dX11_thrown_25 : decode cX11_thrown 25 = .ok (.aload_n 0, 1) := by decide +kernel
theorem dX11_thrown_26 : decode cX11_thrown 26 = .ok (.getfield 71, 3) := by decide +kernel
theorem dX11_thrown_29 : decode cX11_thrown 29 = .ok (.iload_n 1, 1) := by decide +kernel
theorem dX11_thrown_30 : decode cX11_thrown 30 = .ok (.baload, 1) := by decide +kernel
theorem dX11_thrown_31 : decode cX11_thrown 31 = .ok (.ifCond .eq 35, 3) := by decide +kernel
theorem dX11_thrown_34 : decode cX11_thrown 34 = .ok (.aload_n 0, 1) := by decide +kernel
theorem dX11_thrown_35 : decode cX11_thrown 35 = .ok (.getfield 149, 3) := by decide +kernel
theorem dX11_thrown_38 : decode cX11_thrown 38 = .ok (.ifCond .eq 16, 3) := by decide +kernel
theorem dX11_thrown_41 : decode cX11_thrown 41 = .ok (.aload_n 0, 1) := by decide +kernel
theorem dX11_thrown_42 : decode cX11_thrown 42 = .ok (.getfield 162, 3) := by decide +kernel
theorem dX11_thrown_45 : decode cX11_thrown 45 = .ok (.aload_n 0, 1) := by decide +kernel
theorem dX11_thrown_46 : decode cX11_thrown 46 = .ok (.getfield 119, 3) := by decide +kernel
theorem dX11_thrown_49 : decode cX11_thrown 49 = .ok (.iconst 1, 1) := by decide +kernel
theorem dX11_thrown_50 : decode cX11_thrown 50 = .ok (.isub, 1) := by decide +kernel
theorem dX11_thrown_51 : decode cX11_thrown 51 = .ok (.if_icmp .eq 14, 3) := by decide +kernel
theorem dX11_thrown_54 : decode cX11_thrown 54 = .ok (.aload_n 0, 1) := by decide +kernel
theorem dX11_thrown_55 : decode cX11_thrown 55 = .ok (.aload_n 0, 1) := by decide +kernel
theorem dX11_thrown_56 : decode cX11_thrown 56 = .ok (.getfield 119, 3) := by decide +kernel
theorem dX11_thrown_59 : decode cX11_thrown 59 = .ok (.iconst 1, 1) := by decide +kernel
theorem dX11_thrown_60 : decode cX11_thrown 60 = .ok (.isub, 1) := by decide +kernel
theorem dX11_thrown_61 : decode cX11_thrown 61 = .ok (.iload_n 2, 1) := by decide +kernel
theorem dX11_thrown_62 : decode cX11_thrown 62 = .ok (.invokevirtual 185, 3) := by decide +kernel
theorem dX11_thrown_65 : decode cX11_thrown 65 = .ok (.return_, 1) := by decide +kernel
theorem dX11_thrown_66 : decode cX11_thrown 66 = .ok (.aload_n 0, 1) := by decide +kernel
theorem dX11_thrown_67 : decode cX11_thrown 67 = .ok (.aload_n 0, 1) := by decide +kernel
theorem dX11_thrown_68 : decode cX11_thrown 68 = .ok (.getfield 119, 3) := by decide +kernel
theorem dX11_thrown_71 : decode cX11_thrown 71 = .ok (.iconst 1, 1) := by decide +kernel
theorem dX11_thrown_72 : decode cX11_thrown 72 = .ok (.isub, 1) := by decide +kernel
theorem dX11_thrown_73 : decode cX11_thrown 73 = .ok (.iload_n 2, 1) := by decide +kernel
theorem dX11_thrown_74 : decode cX11_thrown 74 = .ok (.invokevirtual 168, 3) := by decide +kernel
theorem dX11_thrown_77 : decode cX11_thrown 77 = .ok (.return_, 1) := by decide +kernel
theorem dX11_throwOn_0 : decode cX11_throwOn 0 = .ok (.iload_n 1, 1) := by decide +kernel
theorem dX11_throwOn_1 : decode cX11_throwOn 1 = .ok (.istore_n 3, 1) := by decide +kernel
theorem dX11_throwOn_2 : decode cX11_throwOn 2 = .ok (.iconst 1, 1) := by decide +kernel
theorem dX11_throwOn_3 : decode cX11_throwOn 3 = .ok (.istore 4, 2) := by decide +kernel
theorem dX11_throwOn_5 : decode cX11_throwOn 5 = .ok (.iload 4, 2) := by decide +kernel
theorem dX11_throwOn_7 : decode cX11_throwOn 7 = .ok (.ifCond .eq 120, 3) := by decide +kernel
theorem dX11_throwOn_10 : decode cX11_throwOn 10 = .ok (.aload_n 0, 1) := by decide +kernel
theorem dX11_throwOn_11 : decode cX11_throwOn 11 = .ok (.iload_n 3, 1) := by decide +kernel
theorem dX11_throwOn_12 : decode cX11_throwOn 12 = .ok (.putfield 119, 3) := by decide +kernel
theorem dX11_throwOn_15 : decode cX11_throwOn 15 = .ok (.aload_n 0, 1) := by decide +kernel
theorem dX11_throwOn_16 : decode cX11_throwOn 16 = .ok (.getfield 71, 3) := by decide +kernel
theorem dX11_throwOn_19 : decode cX11_throwOn 19 = .ok (.iload_n 3, 1) := by decide +kernel
theorem dX11_throwOn_20 : decode cX11_throwOn 20 = .ok (.baload, 1) := by decide +kernel
theorem dX11_throwOn_21 : decode cX11_throwOn 21 = .ok (.istore 5, 2) := by decide +kernel
theorem dX11_throwOn_23 : decode cX11_throwOn 23 = .ok (.aload_n 0, 1) := by decide +kernel
theorem dX11_throwOn_24 : decode cX11_throwOn 24 = .ok (.getfield 119, 3) := by decide +kernel
theorem dX11_throwOn_27 : decode cX11_throwOn 27 = .ok (.ifCond .le 32, 3) := by decide +kernel
theorem dX11_throwOn_30 : decode cX11_throwOn 30 = .ok (.iload 5, 2) := by decide +kernel
theorem dX11_throwOn_32 : decode cX11_throwOn 32 = .ok (.ifCond .eq 27, 3) := by decide +kernel
theorem dX11_throwOn_35 : decode cX11_throwOn 35 = .ok (.aload_n 0, 1) := by decide +kernel
theorem dX11_throwOn_36 : decode cX11_throwOn 36 = .ok (.getfield 149, 3) := by decide +kernel
theorem dX11_throwOn_39 : decode cX11_throwOn 39 = .ok (.ifCond .eq 16, 3) := by decide +kernel
theorem dX11_throwOn_42 : decode cX11_throwOn 42 = .ok (.aload_n 0, 1) := by decide +kernel
theorem dX11_throwOn_43 : decode cX11_throwOn 43 = .ok (.getfield 162, 3) := by decide +kernel
theorem dX11_throwOn_46 : decode cX11_throwOn 46 = .ok (.aload_n 0, 1) := by decide +kernel
theorem dX11_throwOn_47 : decode cX11_throwOn 47 = .ok (.getfield 119, 3) := by decide +kernel
theorem dX11_throwOn_50 : decode cX11_throwOn 50 = .ok (.iconst 1, 1) := by decide +kernel
theorem dX11_throwOn_51 : decode cX11_throwOn 51 = .ok (.isub, 1) := by decide +kernel
theorem dX11_throwOn_52 : decode cX11_throwOn 52 = .ok (.if_icmp .eq 7, 3) := by decide +kernel
theorem dX11_throwOn_55 : decode cX11_throwOn 55 = .ok (.iconst 1, 1) := by decide +kernel
theorem dX11_throwOn_56 : decode cX11_throwOn 56 = .ok (.goto 4, 3) := by decide +kernel
theorem dX11_throwOn_59 : decode cX11_throwOn 59 = .ok (.iconst 0, 1) := by decide +kernel
theorem dX11_throwOn_60 : decode cX11_throwOn 60 = .ok (.istore 4, 2) := by decide +kernel
theorem dX11_throwOn_62 : decode cX11_throwOn 62 = .ok (.iload 4, 2) := by decide +kernel
theorem dX11_throwOn_64 : decode cX11_throwOn 64 = .ok (.ifCond .ne 29, 3) := by decide +kernel
theorem dX11_throwOn_67 : decode cX11_throwOn 67 = .ok (.aload_n 0, 1) := by decide +kernel
theorem dX11_throwOn_68 : decode cX11_throwOn 68 = .ok (.getfield 119, 3) := by decide +kernel
theorem dX11_throwOn_71 : decode cX11_throwOn 71 = .ok (.ifCond .le 22, 3) := by decide +kernel
theorem dX11_throwOn_74 : decode cX11_throwOn 74 = .ok (.iload 5, 2) := by decide +kernel
theorem dX11_throwOn_76 : decode cX11_throwOn 76 = .ok (.ifCond .ne 17, 3) := by decide +kernel
theorem dX11_throwOn_79 : decode cX11_throwOn 79 = .ok (.aload_n 0, 1) := by decide +kernel
theorem dX11_throwOn_80 : decode cX11_throwOn 80 = .ok (.aload_n 0, 1) := by decide +kernel
theorem dX11_throwOn_81 : decode cX11_throwOn 81 = .ok (.getfield 119, 3) := by decide +kernel
theorem dX11_throwOn_84 : decode cX11_throwOn 84 = .ok (.iconst 1, 1) := by decide +kernel
theorem dX11_throwOn_85 : decode cX11_throwOn 85 = .ok (.isub, 1) := by decide +kernel
theorem dX11_throwOn_86 : decode cX11_throwOn 86 = .ok (.iload_n 2, 1) := by decide +kernel
theorem dX11_throwOn_87 : decode cX11_throwOn 87 = .ok (.invokevirtual 168, 3) := by decide +kernel
theorem dX11_throwOn_90 : decode cX11_throwOn 90 = .ok (.goto 27, 3) := by decide +kernel
theorem dX11_throwOn_93 : decode cX11_throwOn 93 = .ok (.aload_n 0, 1) := by decide +kernel
theorem dX11_throwOn_94 : decode cX11_throwOn 94 = .ok (.getfield 119, 3) := by decide +kernel
theorem dX11_throwOn_97 : decode cX11_throwOn 97 = .ok (.ifCond .ne 20, 3) := by decide +kernel
theorem dX11_throwOn_100 : decode cX11_throwOn 100 = .ok (.aload_n 0, 1) := by decide +kernel
theorem dX11_throwOn_101 : decode cX11_throwOn 101 = .ok (.getfield 107, 3) := by decide +kernel
theorem dX11_throwOn_104 : decode cX11_throwOn 104 = .ok (.iconst 1, 1) := by decide +kernel
theorem dX11_throwOn_105 : decode cX11_throwOn 105 = .ok (.iload_n 2, 1) := by decide +kernel
theorem dX11_throwOn_106 : decode cX11_throwOn 106 = .ok (.iastore, 1) := by decide +kernel
theorem dX11_throwOn_107 : decode cX11_throwOn 107 = .ok (.aload_n 0, 1) := by decide +kernel
theorem dX11_throwOn_108 : decode cX11_throwOn 108 = .ok (.iconst 2, 1) := by decide +kernel
theorem dX11_throwOn_109 : decode cX11_throwOn 109 = .ok (.putfield 165, 3) := by decide +kernel
theorem dX11_throwOn_112 : decode cX11_throwOn 112 = .ok (.aload_n 0, 1) := by decide +kernel
theorem dX11_throwOn_113 : decode cX11_throwOn 113 = .ok (.iconst 1, 1) := by decide +kernel
theorem dX11_throwOn_114 : decode cX11_throwOn 114 = .ok (.putfield 159, 3) := by decide +kernel
theorem dX11_throwOn_117 : decode cX11_throwOn 117 = .ok (.aload_n 0, 1) := by decide +kernel
theorem dX11_throwOn_118 : decode cX11_throwOn 118 = .ok (.getfield 119, 3) := by decide +kernel
theorem dX11_throwOn_121 : decode cX11_throwOn 121 = .ok (.iconst 1, 1) := by decide +kernel
theorem dX11_throwOn_122 : decode cX11_throwOn 122 = .ok (.isub, 1) := by decide +kernel
theorem dX11_throwOn_123 : decode cX11_throwOn 123 = .ok (.istore_n 3, 1) := by decide +kernel
theorem dX11_throwOn_124 : decode cX11_throwOn 124 = .ok (.goto (-119), 3) := by decide +kernel
theorem dX11_throwOn_127 : decode cX11_throwOn 127 = .ok (.return_, 1) := by decide +kernel
theorem dX11_raise_0 : decode cX11_raise 0 = .ok (.aload_n 0, 1) := by decide +kernel
theorem dX11_raise_1 : decode cX11_raise 1 = .ok (.getfield 59, 3) := by decide +kernel
theorem dX11_raise_4 : decode cX11_raise 4 = .ok (.iload_n 1, 1) := by decide +kernel
theorem dX11_raise_5 : decode cX11_raise 5 = .ok (.iaload, 1) := by decide +kernel
theorem dX11_raise_6 : decode cX11_raise 6 = .ok (.istore_n 3, 1) := by decide +kernel
theorem dX11_raise_7 : decode cX11_raise 7 = .ok (.iconst 0, 1) := by decide +kernel
theorem dX11_raise_8 : decode cX11_raise 8 = .ok (.istore 4, 2) := by decide +kernel
theorem dX11_raise_10 : decode cX11_raise 10 = .ok (.iload 4, 2) := by decide +kernel
theorem dX11_raise_12 : decode cX11_raise 12 = .ok (.aload_n 0, 1) := by decide +kernel
theorem dX11_raise_13 : decode cX11_raise 13 = .ok (.getfield 28, 3) := by decide +kernel
theorem dX11_raise_16 : decode cX11_raise 16 = .ok (.iload_n 3, 1) := by decide +kernel
theorem dX11_raise_17 : decode cX11_raise 17 = .ok (.iaload, 1) := by decide +kernel
theorem dX11_raise_18 : decode cX11_raise 18 = .ok (.if_icmp .ge 98, 3) := by decide +kernel
theorem dX11_raise_21 : decode cX11_raise 21 = .ok (.bipush 6, 2) := by decide +kernel
theorem dX11_raise_23 : decode cX11_raise 23 = .ok (.iload_n 3, 1) := by decide +kernel
theorem dX11_raise_24 : decode cX11_raise 24 = .ok (.imul, 1) := by decide +kernel
theorem dX11_raise_25 : decode cX11_raise 25 = .ok (.iload 4, 2) := by decide +kernel
theorem dX11_raise_27 : decode cX11_raise 27 = .ok (.iadd, 1) := by decide +kernel
theorem dX11_raise_28 : decode cX11_raise 28 = .ok (.istore 5, 2) := by decide +kernel
theorem dX11_raise_30 : decode cX11_raise 30 = .ok (.aload_n 0, 1) := by decide +kernel
theorem dX11_raise_31 : decode cX11_raise 31 = .ok (.getfield 31, 3) := by decide +kernel
theorem dX11_raise_34 : decode cX11_raise 34 = .ok (.iload 5, 2) := by decide +kernel
theorem dX11_raise_36 : decode cX11_raise 36 = .ok (.iaload, 1) := by decide +kernel
theorem dX11_raise_37 : decode cX11_raise 37 = .ok (.aload_n 0, 1) := by decide +kernel
theorem dX11_raise_38 : decode cX11_raise 38 = .ok (.getfield 34, 3) := by decide +kernel
theorem dX11_raise_41 : decode cX11_raise 41 = .ok (.iload 5, 2) := by decide +kernel
theorem dX11_raise_43 : decode cX11_raise 43 = .ok (.iaload, 1) := by decide +kernel
theorem dX11_raise_44 : decode cX11_raise 44 = .ok (.aload_n 0, 1) := by decide +kernel
theorem dX11_raise_45 : decode cX11_raise 45 = .ok (.getfield 62, 3) := by decide +kernel
theorem dX11_raise_48 : decode cX11_raise 48 = .ok (.iload_n 1, 1) := by decide +kernel
theorem dX11_raise_49 : decode cX11_raise 49 = .ok (.iaload, 1) := by decide +kernel
theorem dX11_raise_50 : decode cX11_raise 50 = .ok (.invokestatic 175, 3) := by decide +kernel
theorem dX11_raise_53 : decode cX11_raise 53 = .ok (.ifCond .eq 57, 3) := by decide +kernel
theorem dX11_raise_56 : decode cX11_raise 56 = .ok (.aload_n 0, 1) := by decide +kernel
theorem dX11_raise_57 : decode cX11_raise 57 = .ok (.getfield 37, 3) := by decide +kernel
theorem dX11_raise_60 : decode cX11_raise 60 = .ok (.iload 5, 2) := by decide +kernel
theorem dX11_raise_62 : decode cX11_raise 62 = .ok (.iaload, 1) := by decide +kernel
theorem dX11_raise_63 : decode cX11_raise 63 = .ok (.ifCond .eq 14, 3) := by decide +kernel
theorem dX11_raise_66 : decode cX11_raise 66 = .ok (.aload_n 0, 1) := by decide +kernel
theorem dX11_raise_67 : decode cX11_raise 67 = .ok (.getfield 37, 3) := by decide +kernel
theorem dX11_raise_70 : decode cX11_raise 70 = .ok (.iload 5, 2) := by decide +kernel
theorem dX11_raise_72 : decode cX11_raise 72 = .ok (.iaload, 1) := by decide +kernel
theorem dX11_raise_73 : decode cX11_raise 73 = .ok (.iload_n 2, 1) := by decide +kernel
theorem dX11_raise_74 : decode cX11_raise 74 = .ok (.if_icmp .ne 36, 3) := by decide +kernel
theorem dX11_raise_77 : decode cX11_raise 77 = .ok (.aload_n 0, 1) := by decide +kernel
theorem dX11_raise_78 : decode cX11_raise 78 = .ok (.invokevirtual 178, 3) := by decide +kernel
theorem dX11_raise_81 : decode cX11_raise 81 = .ok (.ifCond .eq 28, 3) := by decide +kernel
theorem dX11_raise_84 : decode cX11_raise 84 = .ok (.aload_n 0, 1) := by decide +kernel
theorem dX11_raise_85 : decode cX11_raise 85 = .ok (.getfield 107, 3) := by decide +kernel
theorem dX11_raise_88 : decode cX11_raise 88 = .ok (.bipush 6, 2) := by decide +kernel
theorem dX11_raise_90 : decode cX11_raise 90 = .ok (.dup2, 1) := by decide +kernel
theorem dX11_raise_91 : decode cX11_raise 91 = .ok (.iaload, 1) := by decide +kernel
theorem dX11_raise_92 : decode cX11_raise 92 = .ok (.iconst 1, 1) := by decide +kernel
theorem dX11_raise_93 : decode cX11_raise 93 = .ok (.iadd, 1) := by decide +kernel
theorem dX11_raise_94 : decode cX11_raise 94 = .ok (.iastore, 1) := by decide +kernel
theorem dX11_raise_95 : decode cX11_raise 95 = .ok (.aload_n 0, 1) := by decide +kernel
theorem dX11_raise_96 : decode cX11_raise 96 = .ok (.iload_n 1, 1) := by decide +kernel
theorem dX11_raise_97 : decode cX11_raise 97 = .ok (.aload_n 0, 1) := by decide +kernel
theorem dX11_raise_98 : decode cX11_raise 98 = .ok (.getfield 40, 3) := by decide +kernel
theorem dX11_raise_101 : decode cX11_raise 101 = .ok (.iload 5, 2) := by decide +kernel
theorem dX11_raise_103 : decode cX11_raise 103 = .ok (.iaload, 1) := by decide +kernel
theorem dX11_raise_104 : decode cX11_raise 104 = .ok (.iconst 3, 1) := by decide +kernel
theorem dX11_raise_105 : decode cX11_raise 105 = .ok (.iload_n 2, 1) := by decide +kernel
theorem dX11_raise_106 : decode cX11_raise 106 = .ok (.invokevirtual 198, 3) := by decide +kernel
theorem dX11_raise_109 : decode cX11_raise 109 = .ok (.return_, 1) := by decide +kernel
theorem dX11_raise_110 : decode cX11_raise 110 = .ok (.iinc 4 1, 3) := by decide +kernel
theorem dX11_raise_113 : decode cX11_raise 113 = .ok (.goto (-103), 3) := by decide +kernel
theorem dX11_raise_116 : decode cX11_raise 116 = .ok (.aload_n 0, 1) := by decide +kernel
theorem dX11_raise_117 : decode cX11_raise 117 = .ok (.iload_n 1, 1) := by decide +kernel
theorem dX11_raise_118 : decode cX11_raise 118 = .ok (.bipush 99, 2) := by decide +kernel
theorem dX11_raise_120 : decode cX11_raise 120 = .ok (.iconst 2, 1) := by decide +kernel
theorem dX11_raise_121 : decode cX11_raise 121 = .ok (.iload_n 2, 1) := by decide +kernel
theorem dX11_raise_122 : decode cX11_raise 122 = .ok (.invokevirtual 198, 3) := by decide +kernel
theorem dX11_raise_125 : decode cX11_raise 125 = .ok (.return_, 1) := by decide +kernel
theorem dX11_cleanOn_0 : decode cX11_cleanOn 0 = .ok (.aload_n 0, 1) := by decide +kernel
theorem dX11_cleanOn_1 : decode cX11_cleanOn 1 = .ok (.getfield 162, 3) := by decide +kernel
theorem dX11_cleanOn_4 : decode cX11_cleanOn 4 = .ok (.istore_n 1, 1) := by decide +kernel
theorem dX11_cleanOn_5 : decode cX11_cleanOn 5 = .ok (.aload_n 0, 1) := by decide +kernel
theorem dX11_cleanOn_6 : decode cX11_cleanOn 6 = .ok (.getfield 59, 3) := by decide +kernel
theorem dX11_cleanOn_9 : decode cX11_cleanOn 9 = .ok (.iload_n 1, 1) := by decide +kernel
theorem dX11_cleanOn_10 : decode cX11_cleanOn 10 = .ok (.iaload, 1) := by decide +kernel
theorem dX11_cleanOn_11 : decode cX11_cleanOn 11 = .ok (.istore_n 2, 1) := by decide +kernel
theorem dX11_cleanOn_12 : decode cX11_cleanOn 12 = .ok (.aload_n 0, 1) := by decide +kernel
theorem dX11_cleanOn_13 : decode cX11_cleanOn 13 = .ok (.getfield 90, 3) := by decide +kernel
theorem dX11_cleanOn_16 : decode cX11_cleanOn 16 = .ok (.iload_n 1, 1) := by decide +kernel
theorem dX11_cleanOn_17 : decode cX11_cleanOn 17 = .ok (.iaload, 1) := by decide +kernel
theorem dX11_cleanOn_18 : decode cX11_cleanOn 18 = .ok (.ifCond .lt 87, 3) := by decide +kernel
theorem dX11_cleanOn_21 : decode cX11_cleanOn 21 = .ok (.bipush 6, 2) := by decide +kernel
theorem dX11_cleanOn_23 : decode cX11_cleanOn 23 = .ok (.iload_n 2, 1) := by decide +kernel
theorem dX11_cleanOn_24 : decode cX11_cleanOn 24 = .ok (.imul, 1) := by decide +kernel
theorem dX11_cleanOn_25 : decode cX11_cleanOn 25 = .ok (.aload_n 0, 1) := by decide +kernel
theorem dX11_cleanOn_26 : decode cX11_cleanOn 26 = .ok (.getfield 90, 3) := by decide +kernel
theorem dX11_cleanOn_29 : decode cX11_cleanOn 29 = .ok (.iload_n 1, 1) := by decide +kernel
theorem dX11_cleanOn_30 : decode cX11_cleanOn 30 = .ok (.iaload, 1) := by decide +kernel
theorem dX11_cleanOn_31 : decode cX11_cleanOn 31 = .ok (.iadd, 1) := by decide +kernel
theorem dX11_cleanOn_32 : decode cX11_cleanOn 32 = .ok (.istore_n 3, 1) := by decide +kernel
theorem dX11_cleanOn_33 : decode cX11_cleanOn 33 = .ok (.aload_n 0, 1) := by decide +kernel
theorem dX11_cleanOn_34 : decode cX11_cleanOn 34 = .ok (.getfield 46, 3) := by decide +kernel
theorem dX11_cleanOn_37 : decode cX11_cleanOn 37 = .ok (.iload_n 3, 1) := by decide +kernel
theorem dX11_cleanOn_38 : decode cX11_cleanOn 38 = .ok (.iaload, 1) := by decide +kernel
theorem dX11_cleanOn_39 : decode cX11_cleanOn 39 = .ok (.aload_n 0, 1) := by decide +kernel
theorem dX11_cleanOn_40 : decode cX11_cleanOn 40 = .ok (.getfield 49, 3) := by decide +kernel
theorem dX11_cleanOn_43 : decode cX11_cleanOn 43 = .ok (.iload_n 3, 1) := by decide +kernel
theorem dX11_cleanOn_44 : decode cX11_cleanOn 44 = .ok (.iaload, 1) := by decide +kernel
theorem dX11_cleanOn_45 : decode cX11_cleanOn 45 = .ok (.aload_n 0, 1) := by decide +kernel
theorem dX11_cleanOn_46 : decode cX11_cleanOn 46 = .ok (.getfield 62, 3) := by decide +kernel
theorem dX11_cleanOn_49 : decode cX11_cleanOn 49 = .ok (.iload_n 1, 1) := by decide +kernel
theorem dX11_cleanOn_50 : decode cX11_cleanOn 50 = .ok (.iaload, 1) := by decide +kernel
theorem dX11_cleanOn_51 : decode cX11_cleanOn 51 = .ok (.invokestatic 175, 3) := by decide +kernel
theorem dX11_cleanOn_54 : decode cX11_cleanOn 54 = .ok (.ifCond .eq 38, 3) := by decide +kernel
theorem dX11_cleanOn_57 : decode cX11_cleanOn 57 = .ok (.aload_n 0, 1) := by decide +kernel
theorem dX11_cleanOn_58 : decode cX11_cleanOn 58 = .ok (.getfield 87, 3) := by decide +kernel
theorem dX11_cleanOn_61 : decode cX11_cleanOn 61 = .ok (.iload_n 1, 1) := by decide +kernel
theorem dX11_cleanOn_62 : decode cX11_cleanOn 62 = .ok (.iaload, 1) := by decide +kernel
theorem dX11_cleanOn_63 : decode cX11_cleanOn 63 = .ok (.aload_n 0, 1) := by decide +kernel
theorem dX11_cleanOn_64 : decode cX11_cleanOn 64 = .ok (.getfield 90, 3) := by decide +kernel
theorem dX11_cleanOn_67 : decode cX11_cleanOn 67 = .ok (.iload_n 1, 1) := by decide +kernel
theorem dX11_cleanOn_68 : decode cX11_cleanOn 68 = .ok (.iaload, 1) := by decide +kernel
theorem dX11_cleanOn_69 : decode cX11_cleanOn 69 = .ok (.ishr, 1) := by decide +kernel
theorem dX11_cleanOn_70 : decode cX11_cleanOn 70 = .ok (.iconst 1, 1) := by decide +kernel
theorem dX11_cleanOn_71 : decode cX11_cleanOn 71 = .ok (.iand, 1) := by decide +kernel
theorem dX11_cleanOn_72 : decode cX11_cleanOn 72 = .ok (.ifCond .ne 20, 3) := by decide +kernel
theorem dX11_cleanOn_75 : decode cX11_cleanOn 75 = .ok (.aload_n 0, 1) := by decide +kernel
theorem dX11_cleanOn_76 : decode cX11_cleanOn 76 = .ok (.invokevirtual 178, 3) := by decide +kernel
theorem dX11_cleanOn_79 : decode cX11_cleanOn 79 = .ok (.ifCond .ne 4, 3) := by decide +kernel
theorem dX11_cleanOn_82 : decode cX11_cleanOn 82 = .ok (.return_, 1) := by decide +kernel
theorem dX11_cleanOn_83 : decode cX11_cleanOn 83 = .ok (.aload_n 0, 1) := by decide +kernel
theorem dX11_cleanOn_84 : decode cX11_cleanOn 84 = .ok (.iload_n 1, 1) := by decide +kernel
theorem dX11_cleanOn_85 : decode cX11_cleanOn 85 = .ok (.invokevirtual 182, 3) := by decide +kernel
theorem dX11_cleanOn_88 : decode cX11_cleanOn 88 = .ok (.ifCond .eq 4, 3) := by decide +kernel
theorem dX11_cleanOn_91 : decode cX11_cleanOn 91 = .ok (.return_, 1) := by decide +kernel
theorem dX11_cleanOn_92 : decode cX11_cleanOn 92 = .ok (.aload_n 0, 1) := by decide +kernel
theorem dX11_cleanOn_93 : decode cX11_cleanOn 93 = .ok (.getfield 90, 3) := by decide +kernel
theorem dX11_cleanOn_96 : decode cX11_cleanOn 96 = .ok (.iload_n 1, 1) := by decide +kernel
theorem dX11_cleanOn_97 : decode cX11_cleanOn 97 = .ok (.dup2, 1) := by decide +kernel
theorem dX11_cleanOn_98 : decode cX11_cleanOn 98 = .ok (.iaload, 1) := by decide +kernel
theorem dX11_cleanOn_99 : decode cX11_cleanOn 99 = .ok (.iconst 1, 1) := by decide +kernel
theorem dX11_cleanOn_100 : decode cX11_cleanOn 100 = .ok (.isub, 1) := by decide +kernel
theorem dX11_cleanOn_101 : decode cX11_cleanOn 101 = .ok (.iastore, 1) := by decide +kernel
theorem dX11_cleanOn_102 : decode cX11_cleanOn 102 = .ok (.goto (-90), 3) := by decide +kernel
theorem dX11_cleanOn_105 : decode cX11_cleanOn 105 = .ok (.aload_n 0, 1) := by decide +kernel
theorem dX11_cleanOn_106 : decode cX11_cleanOn 106 = .ok (.iload_n 1, 1) := by decide +kernel
theorem dX11_cleanOn_107 : decode cX11_cleanOn 107 = .ok (.putfield 119, 3) := by decide +kernel
theorem dX11_cleanOn_110 : decode cX11_cleanOn 110 = .ok (.aload_n 0, 1) := by decide +kernel
theorem dX11_cleanOn_111 : decode cX11_cleanOn 111 = .ok (.dup, 1) := by decide +kernel
theorem dX11_cleanOn_112 : decode cX11_cleanOn 112 = .ok (.getfield 162, 3) := by decide +kernel
theorem dX11_cleanOn_115 : decode cX11_cleanOn 115 = .ok (.iconst 1, 1) := by decide +kernel
theorem dX11_cleanOn_116 : decode cX11_cleanOn 116 = .ok (.isub, 1) := by decide +kernel
theorem dX11_cleanOn_117 : decode cX11_cleanOn 117 = .ok (.putfield 162, 3) := by decide +kernel
theorem dX11_cleanOn_120 : decode cX11_cleanOn 120 = .ok (.aload_n 0, 1) := by decide +kernel
theorem dX11_cleanOn_121 : decode cX11_cleanOn 121 = .ok (.aload_n 0, 1) := by decide +kernel
theorem dX11_cleanOn_122 : decode cX11_cleanOn 122 = .ok (.getfield 119, 3) := by decide +kernel
theorem dX11_cleanOn_125 : decode cX11_cleanOn 125 = .ok (.ifCond .ne 7, 3) := by decide +kernel
theorem dX11_cleanOn_128 : decode cX11_cleanOn 128 = .ok (.iconst 1, 1) := by decide +kernel
theorem dX11_cleanOn_129 : decode cX11_cleanOn 129 = .ok (.goto 4, 3) := by decide +kernel
theorem dX11_cleanOn_132 : decode cX11_cleanOn 132 = .ok (.iconst 0, 1) := by decide +kernel
theorem dX11_cleanOn_133 : decode cX11_cleanOn 133 = .ok (.putfield 159, 3) := by decide +kernel
theorem dX11_cleanOn_136 : decode cX11_cleanOn 136 = .ok (.return_, 1) := by decide +kernel
theorem dX11_get_0 : decode cX11_get 0 = .ok (.aload_n 0, 1) := by decide +kernel
theorem dX11_get_1 : decode cX11_get 1 = .ok (.getfield 65, 3) := by decide +kernel
theorem dX11_get_4 : decode cX11_get 4 = .ok (.bipush 6, 2) := by decide +kernel
theorem dX11_get_6 : decode cX11_get 6 = .ok (.iload_n 1, 1) := by decide +kernel
theorem dX11_get_7 : decode cX11_get 7 = .ok (.imul, 1) := by decide +kernel
theorem dX11_get_8 : decode cX11_get 8 = .ok (.iload_n 2, 1) := by decide +kernel
theorem dX11_get_9 : decode cX11_get 9 = .ok (.iadd, 1) := by decide +kernel
theorem dX11_get_10 : decode cX11_get 10 = .ok (.iaload, 1) := by decide +kernel
theorem dX11_get_11 : decode cX11_get 11 = .ok (.ireturn, 1) := by decide +kernel
theorem dX11_put_0 : decode cX11_put 0 = .ok (.aload_n 0, 1) := by decide +kernel
theorem dX11_put_1 : decode cX11_put 1 = .ok (.getfield 65, 3) := by decide +kernel
theorem dX11_put_4 : decode cX11_put 4 = .ok (.bipush 6, 2) := by decide +kernel
theorem dX11_put_6 : decode cX11_put 6 = .ok (.iload_n 1, 1) := by decide +kernel
theorem dX11_put_7 : decode cX11_put 7 = .ok (.imul, 1) := by decide +kernel
theorem dX11_put_8 : decode cX11_put 8 = .ok (.iload_n 2, 1) := by decide +kernel
theorem dX11_put_9 : decode cX11_put 9 = .ok (.iadd, 1) := by decide +kernel
theorem dX11_put_10 : decode cX11_put 10 = .ok (.iload_n 3, 1) := by decide +kernel
theorem dX11_put_11 : decode cX11_put 11 = .ok (.iastore, 1) := by decide +kernel
theorem dX11_put_12 : decode cX11_put 12 = .ok (.return_, 1) := by decide +kernel
theorem dX11_cast_0 : decode cX11_cast 0 = .ok (.iload_n 0, 1) := by decide +kernel
theorem dX11_cast_1 : decode cX11_cast 1 = .ok (.ifCond .ne 9, 3) := by decide +kernel
theorem dX11_cast_4 : decode cX11_cast 4 = .ok (.iload_n 1, 1) := by decide +kernel
theorem dX11_cast_5 : decode cX11_cast 5 = .ok (.i2b, 1) := by decide +kernel
theorem dX11_cast_6 : decode cX11_cast 6 = .ok (.i2l, 1) := by decide +kernel
theorem dX11_cast_7 : decode cX11_cast 7 = .ok (.goto 5, 3) := by decide +kernel
theorem dX11_cast_10 : decode cX11_cast 10 = .ok (.iload_n 1, 1) := by decide +kernel
theorem dX11_cast_11 : decode cX11_cast 11 = .ok (.i2l, 1) := by decide +kernel
theorem dX11_cast_12 : decode cX11_cast 12 = .ok (.lreturn, 1) := by decide +kernel
theorem dX11_step_0 : decode cX11_step 0 = .ok (.aload_n 0, 1) := by decide +kernel
theorem dX11_step_1 : decode cX11_step 1 = .ok (.getfield 119, 3) := by decide +kernel
theorem dX11_step_4 : decode cX11_step 4 = .ok (.iconst 1, 1) := by decide +kernel
theorem dX11_step_5 : decode cX11_step 5 = .ok (.isub, 1) := by decide +kernel
theorem dX11_step_6 : decode cX11_step 6 = .ok (.istore_n 1, 1) := by decide +kernel
theorem dX11_step_7 : decode cX11_step 7 = .ok (.aload_n 0, 1) := by decide +kernel
theorem dX11_step_8 : decode cX11_step 8 = .ok (.getfield 59, 3) := by decide +kernel
theorem dX11_step_11 : decode cX11_step 11 = .ok (.iload_n 1, 1) := by decide +kernel
theorem dX11_step_12 : decode cX11_step 12 = .ok (.iaload, 1) := by decide +kernel
theorem dX11_step_13 : decode cX11_step 13 = .ok (.istore_n 2, 1) := by decide +kernel
theorem dX11_step_14 : decode cX11_step 14 = .ok (.aload_n 0, 1) := by decide +kernel
theorem dX11_step_15 : decode cX11_step 15 = .ok (.getfield 62, 3) := by decide +kernel
theorem dX11_step_18 : decode cX11_step 18 = .ok (.iload_n 1, 1) := by decide +kernel
theorem dX11_step_19 : decode cX11_step 19 = .ok (.iaload, 1) := by decide +kernel
theorem dX11_step_20 : decode cX11_step 20 = .ok (.aload_n 0, 1) := by decide +kernel
theorem dX11_step_21 : decode cX11_step 21 = .ok (.getfield 7, 3) := by decide +kernel
theorem dX11_step_24 : decode cX11_step 24 = .ok (.iload_n 2, 1) := by decide +kernel
theorem dX11_step_25 : decode cX11_step 25 = .ok (.iaload, 1) := by decide +kernel
theorem dX11_step_26 : decode cX11_step 26 = .ok (.if_icmp .lt 20, 3) := by decide +kernel
theorem dX11_step_29 : decode cX11_step 29 = .ok (.aload_n 0, 1) := by decide +kernel
theorem dX11_step_30 : decode cX11_step 30 = .ok (.dup, 1) := by decide +kernel
theorem dX11_step_31 : decode cX11_step 31 = .ok (.getfield 119, 3) := by decide +kernel
theorem dX11_step_34 : decode cX11_step 34 = .ok (.iconst 1, 1) := by decide +kernel
theorem dX11_step_35 : decode cX11_step 35 = .ok (.isub, 1) := by decide +kernel
theorem dX11_step_36 : decode cX11_step 36 = .ok (.putfield 119, 3) := by decide +kernel
theorem dX11_step_39 : decode cX11_step 39 = .ok (.aload_n 0, 1) := by decide +kernel
theorem dX11_step_40 : decode cX11_step 40 = .ok (.iload_n 1, 1) := by decide +kernel
theorem dX11_step_41 : decode cX11_step 41 = .ok (.iconst 0, 1) := by decide +kernel
theorem dX11_step_42 : decode cX11_step 42 = .ok (.invokevirtual 191, 3) := by decide +kernel
theorem dX11_step_45 : decode cX11_step 45 = .ok (.return_, 1) := by decide +kernel
theorem dX11_step_46 : decode cX11_step 46 = .ok (.bipush 48, 2) := by decide +kernel
theorem dX11_step_48 : decode cX11_step 48 = .ok (.iload_n 2, 1) := by decide +kernel
theorem dX11_step_49 : decode cX11_step 49 = .ok (.imul, 1) := by decide +kernel
theorem dX11_step_50 : decode cX11_step 50 = .ok (.aload_n 0, 1) := by decide +kernel
theorem dX11_step_51 : decode cX11_step 51 = .ok (.getfield 62, 3) := by decide +kernel
theorem dX11_step_54 : decode cX11_step 54 = .ok (.iload_n 1, 1) := by decide +kernel
theorem dX11_step_55 : decode cX11_step 55 = .ok (.iaload, 1) := by decide +kernel
theorem dX11_step_56 : decode cX11_step 56 = .ok (.iadd, 1) := by decide +kernel
theorem dX11_step_57 : decode cX11_step 57 = .ok (.istore_n 3, 1) := by decide +kernel
theorem dX11_step_58 : decode cX11_step 58 = .ok (.aload_n 0, 1) := by decide +kernel
theorem dX11_step_59 : decode cX11_step 59 = .ok (.getfield 13, 3) := by decide +kernel
theorem dX11_step_62 : decode cX11_step 62 = .ok (.iload_n 3, 1) := by decide +kernel
theorem dX11_step_63 : decode cX11_step 63 = .ok (.iaload, 1) := by decide +kernel
theorem dX11_step_64 : decode cX11_step 64 = .ok (.istore 4, 2) := by decide +kernel
theorem dX11_step_66 : decode cX11_step 66 = .ok (.iload 4, 2) := by decide +kernel
theorem dX11_step_68 : decode cX11_step 68 = .ok (.bipush 6, 2) := by decide +kernel
theorem dX11_step_70 : decode cX11_step 70 = .ok (.if_icmp .eq 10, 3) := by decide +kernel
theorem dX11_step_73 : decode cX11_step 73 = .ok (.iload 4, 2) := by decide +kernel
theorem dX11_step_75 : decode cX11_step 75 = .ok (.bipush 7, 2) := by decide +kernel
theorem dX11_step_77 : decode cX11_step 77 = .ok (.if_icmp .ne 12, 3) := by decide +kernel
theorem dX11_step_80 : decode cX11_step 80 = .ok (.aload_n 0, 1) := by decide +kernel
theorem dX11_step_81 : decode cX11_step 81 = .ok (.iload_n 1, 1) := by decide +kernel
theorem dX11_step_82 : decode cX11_step 82 = .ok (.iload_n 3, 1) := by decide +kernel
theorem dX11_step_83 : decode cX11_step 83 = .ok (.invokevirtual 202, 3) := by decide +kernel
theorem dX11_step_86 : decode cX11_step 86 = .ok (.goto 174, 3) := by decide +kernel
theorem dX11_step_89 : decode cX11_step 89 = .ok (.iload 4, 2) := by decide +kernel
theorem dX11_step_91 : decode cX11_step 91 = .ok (.bipush 8, 2) := by decide +kernel
theorem dX11_step_93 : decode cX11_step 93 = .ok (.if_icmp .ne 12, 3) := by decide +kernel
theorem dX11_step_96 : decode cX11_step 96 = .ok (.aload_n 0, 1) := by decide +kernel
theorem dX11_step_97 : decode cX11_step 97 = .ok (.iload_n 1, 1) := by decide +kernel
theorem dX11_step_98 : decode cX11_step 98 = .ok (.iload_n 3, 1) := by decide +kernel
theorem dX11_step_99 : decode cX11_step 99 = .ok (.invokevirtual 205, 3) := by decide +kernel
theorem dX11_step_102 : decode cX11_step 102 = .ok (.goto 158, 3) := by decide +kernel
theorem dX11_step_105 : decode cX11_step 105 = .ok (.iload 4, 2) := by decide +kernel
theorem dX11_step_107 : decode cX11_step 107 = .ok (.bipush 13, 2) := by decide +kernel
theorem dX11_step_109 : decode cX11_step 109 = .ok (.if_icmp .ne 47, 3) := by decide +kernel
theorem dX11_step_112 : decode cX11_step 112 = .ok (.aload_n 0, 1) := by decide +kernel
theorem dX11_step_113 : decode cX11_step 113 = .ok (.invokevirtual 178, 3) := by decide +kernel
theorem dX11_step_116 : decode cX11_step 116 = .ok (.ifCond .eq 144, 3) := by decide +kernel
theorem dX11_step_119 : decode cX11_step 119 = .ok (.aload_n 0, 1) := by decide +kernel
theorem dX11_step_120 : decode cX11_step 120 = .ok (.aload_n 0, 1) := by decide +kernel
theorem dX11_step_121 : decode cX11_step 121 = .ok (.getfield 19, 3) := by decide +kernel
theorem dX11_step_124 : decode cX11_step 124 = .ok (.iload_n 3, 1) := by decide +kernel
theorem dX11_step_125 : decode cX11_step 125 = .ok (.iaload, 1) := by decide +kernel
theorem dX11_step_126 : decode cX11_step 126 = .ok (.iload_n 1, 1) := by decide +kernel
theorem dX11_step_127 : decode cX11_step 127 = .ok (.aload_n 0, 1) := by decide +kernel
theorem dX11_step_128 : decode cX11_step 128 = .ok (.getfield 25, 3) := by decide +kernel
theorem dX11_step_131 : decode cX11_step 131 = .ok (.iload_n 3, 1) := by decide +kernel
theorem dX11_step_132 : decode cX11_step 132 = .ok (.iaload, 1) := by decide +kernel
theorem dX11_step_133 : decode cX11_step 133 = .ok (.aload_n 0, 1) := by decide +kernel
theorem dX11_step_134 : decode cX11_step 134 = .ok (.getfield 22, 3) := by decide +kernel
theorem dX11_step_137 : decode cX11_step 137 = .ok (.iload_n 3, 1) := by decide +kernel
theorem dX11_step_138 : decode cX11_step 138 = .ok (.iaload, 1) := by decide +kernel
theorem dX11_step_139 : decode cX11_step 139 = .ok (.iconst 0, 1) := by decide +kernel
theorem dX11_step_140 : decode cX11_step 140 = .ok (.invokevirtual 194, 3) := by decide +kernel
theorem dX11_step_143 : decode cX11_step 143 = .ok (.ifCond .ne 117, 3) := by decide +kernel
theorem dX11_step_146 : decode cX11_step 146 = .ok (.aload_n 0, 1) := by decide +kernel
theorem dX11_step_147 : decode cX11_step 147 = .ok (.iload_n 1, 1) := by decide +kernel
theorem dX11_step_148 : decode cX11_step 148 = .ok (.bipush 7, 2) := by decide +kernel
theorem dX11_step_150 : decode cX11_step 150 = .ok (.invokevirtual 208, 3) := by decide +kernel
theorem dX11_step_153 : decode cX11_step 153 = .ok (.goto 107, 3) := by decide +kernel
theorem dX11_step_156 : decode cX11_step 156 = .ok (.iload 4, 2) := by decide +kernel
theorem dX11_step_158 : decode cX11_step 158 = .ok (.bipush 14, 2) := by decide +kernel
theorem dX11_step_160 : decode cX11_step 160 = .ok (.if_icmp .ne 25, 3) := by decide +kernel
theorem dX11_step_163 : decode cX11_step 163 = .ok (.aload_n 0, 1) := by decide +kernel
theorem dX11_step_164 : decode cX11_step 164 = .ok (.iload_n 1, 1) := by decide +kernel
theorem dX11_step_165 : decode cX11_step 165 = .ok (.bipush 99, 2) := by decide +kernel
theorem dX11_step_167 : decode cX11_step 167 = .ok (.iconst 1, 1) := by decide +kernel
theorem dX11_step_168 : decode cX11_step 168 = .ok (.aload_n 0, 1) := by decide +kernel
theorem dX11_step_169 : decode cX11_step 169 = .ok (.iload_n 1, 1) := by decide +kernel
theorem dX11_step_170 : decode cX11_step 170 = .ok (.aload_n 0, 1) := by decide +kernel
theorem dX11_step_171 : decode cX11_step 171 = .ok (.getfield 16, 3) := by decide +kernel
theorem dX11_step_174 : decode cX11_step 174 = .ok (.iload_n 3, 1) := by decide +kernel
theorem dX11_step_175 : decode cX11_step 175 = .ok (.iaload, 1) := by decide +kernel
theorem dX11_step_176 : decode cX11_step 176 = .ok (.invokevirtual 211, 3) := by decide +kernel
theorem dX11_step_179 : decode cX11_step 179 = .ok (.invokevirtual 198, 3) := by decide +kernel
theorem dX11_step_182 : decode cX11_step 182 = .ok (.goto 78, 3) := by decide +kernel
theorem dX11_step_185 : decode cX11_step 185 = .ok (.iload 4, 2) := by decide +kernel
theorem dX11_step_187 : decode cX11_step 187 = .ok (.bipush 15, 2) := by decide +kernel
theorem dX11_step_189 : decode cX11_step 189 = .ok (.if_icmp .ne 17, 3) := by decide +kernel
theorem dX11_step_192 : decode cX11_step 192 = .ok (.aload_n 0, 1) := by decide +kernel
theorem dX11_step_193 : decode cX11_step 193 = .ok (.iload_n 1, 1) := by decide +kernel
theorem dX11_step_194 : decode cX11_step 194 = .ok (.aload_n 0, 1) := by decide +kernel
theorem dX11_step_195 : decode cX11_step 195 = .ok (.getfield 19, 3) := by decide +kernel
theorem dX11_step_198 : decode cX11_step 198 = .ok (.iload_n 3, 1) := by decide +kernel
theorem dX11_step_199 : decode cX11_step 199 = .ok (.iaload, 1) := by decide +kernel
theorem dX11_step_200 : decode cX11_step 200 = .ok (.invokevirtual 208, 3) := by decide +kernel
theorem dX11_step_203 : decode cX11_step 203 = .ok (.goto 57, 3) := by decide +kernel
theorem dX11_step_206 : decode cX11_step 206 = .ok (.iload 4, 2) := by decide +kernel
theorem dX11_step_208 : decode cX11_step 208 = .ok (.bipush 6, 2) := by decide +kernel
theorem dX11_step_210 : decode cX11_step 210 = .ok (.if_icmp .ge 12, 3) := by decide +kernel
theorem dX11_step_213 : decode cX11_step 213 = .ok (.aload_n 0, 1) := by decide +kernel
theorem dX11_step_214 : decode cX11_step 214 = .ok (.iload_n 1, 1) := by decide +kernel
theorem dX11_step_215 : decode cX11_step 215 = .ok (.iload_n 3, 1) := by decide +kernel
theorem dX11_step_216 : decode cX11_step 216 = .ok (.invokevirtual 215, 3) := by decide +kernel
theorem dX11_step_219 : decode cX11_step 219 = .ok (.goto 9, 3) := by decide +kernel
theorem dX11_step_222 : decode cX11_step 222 = .ok (.aload_n 0, 1) := by decide +kernel
theorem dX11_step_223 : decode cX11_step 223 = .ok (.iload_n 1, 1) := by decide +kernel
theorem dX11_step_224 : decode cX11_step 224 = .ok (.iload_n 3, 1) := by decide +kernel
theorem dX11_step_225 : decode cX11_step 225 = .ok (.invokevirtual 218, 3) := by decide +kernel
theorem dX11_step_228 : decode cX11_step 228 = .ok (.istore 5, 2) := by decide +kernel
theorem dX11_step_230 : decode cX11_step 230 = .ok (.iload 5, 2) := by decide +kernel
theorem dX11_step_232 : decode cX11_step 232 = .ok (.ifCond .le 13, 3) := by decide +kernel
theorem dX11_step_235 : decode cX11_step 235 = .ok (.aload_n 0, 1) := by decide +kernel
theorem dX11_step_236 : decode cX11_step 236 = .ok (.iload_n 1, 1) := by decide +kernel
theorem dX11_step_237 : decode cX11_step 237 = .ok (.iload 5, 2) := by decide +kernel
theorem dX11_step_239 : decode cX11_step 239 = .ok (.invokevirtual 208, 3) := by decide +kernel
theorem dX11_step_242 : decode cX11_step 242 = .ok (.goto 18, 3) := by decide +kernel
theorem dX11_step_245 : decode cX11_step 245 = .ok (.aload_n 0, 1) := by decide +kernel
theorem dX11_step_246 : decode cX11_step 246 = .ok (.iload_n 1, 1) := by decide +kernel
theorem dX11_step_247 : decode cX11_step 247 = .ok (.aload_n 0, 1) := by decide +kernel
theorem dX11_step_248 : decode cX11_step 248 = .ok (.getfield 62, 3) := by decide +kernel
theorem dX11_step_251 : decode cX11_step 251 = .ok (.iload_n 1, 1) := by decide +kernel
theorem dX11_step_252 : decode cX11_step 252 = .ok (.iaload, 1) := by decide +kernel
theorem dX11_step_253 : decode cX11_step 253 = .ok (.iconst 1, 1) := by decide +kernel
theorem dX11_step_254 : decode cX11_step 254 = .ok (.iadd, 1) := by decide +kernel
theorem dX11_step_255 : decode cX11_step 255 = .ok (.iconst 0, 1) := by decide +kernel
theorem dX11_step_256 : decode cX11_step 256 = .ok (.iconst 0, 1) := by decide +kernel
theorem dX11_step_257 : decode cX11_step 257 = .ok (.invokevirtual 198, 3) := by decide +kernel
theorem dX11_step_260 : decode cX11_step 260 = .ok (.return_, 1) := by decide +kernel
theorem dX11_goes_0 : decode cX11_goes 0 = .ok (.aload_n 0, 1) := by decide +kernel
theorem dX11_goes_1 : decode cX11_goes 1 = .ok (.getfield 13, 3) := by decide +kernel
theorem dX11_goes_4 : decode cX11_goes 4 = .ok (.iload_n 2, 1) := by decide +kernel
theorem dX11_goes_5 : decode cX11_goes 5 = .ok (.iaload, 1) := by decide +kernel
theorem dX11_goes_6 : decode cX11_goes 6 = .ok (.bipush 6, 2) := by decide +kernel
theorem dX11_goes_8 : decode cX11_goes 8 = .ok (.if_icmp .eq 17, 3) := by decide +kernel
theorem dX11_goes_11 : decode cX11_goes 11 = .ok (.aload_n 0, 1) := by decide +kernel
theorem dX11_goes_12 : decode cX11_goes 12 = .ok (.iload_n 1, 1) := by decide +kernel
theorem dX11_goes_13 : decode cX11_goes 13 = .ok (.aload_n 0, 1) := by decide +kernel
theorem dX11_goes_14 : decode cX11_goes 14 = .ok (.getfield 16, 3) := by decide +kernel
theorem dX11_goes_17 : decode cX11_goes 17 = .ok (.iload_n 2, 1) := by decide +kernel
theorem dX11_goes_18 : decode cX11_goes 18 = .ok (.iaload, 1) := by decide +kernel
theorem dX11_goes_19 : decode cX11_goes 19 = .ok (.invokevirtual 211, 3) := by decide +kernel
theorem dX11_goes_22 : decode cX11_goes 22 = .ok (.ifCond .le 7, 3) := by decide +kernel
theorem dX11_goes_25 : decode cX11_goes 25 = .ok (.iconst 1, 1) := by decide +kernel
theorem dX11_goes_26 : decode cX11_goes 26 = .ok (.goto 4, 3) := by decide +kernel
theorem dX11_goes_29 : decode cX11_goes 29 = .ok (.iconst 0, 1) := by decide +kernel
theorem dX11_goes_30 : decode cX11_goes 30 = .ok (.istore_n 3, 1) := by decide +kernel
theorem dX11_goes_31 : decode cX11_goes 31 = .ok (.iload_n 3, 1) := by decide +kernel
theorem dX11_goes_32 : decode cX11_goes 32 = .ok (.ifCond .eq 26, 3) := by decide +kernel
theorem dX11_goes_35 : decode cX11_goes 35 = .ok (.aload_n 0, 1) := by decide +kernel
theorem dX11_goes_36 : decode cX11_goes 36 = .ok (.getfield 19, 3) := by decide +kernel
theorem dX11_goes_39 : decode cX11_goes 39 = .ok (.iload_n 2, 1) := by decide +kernel
theorem dX11_goes_40 : decode cX11_goes 40 = .ok (.iaload, 1) := by decide +kernel
theorem dX11_goes_41 : decode cX11_goes 41 = .ok (.aload_n 0, 1) := by decide +kernel
theorem dX11_goes_42 : decode cX11_goes 42 = .ok (.getfield 62, 3) := by decide +kernel
theorem dX11_goes_45 : decode cX11_goes 45 = .ok (.iload_n 1, 1) := by decide +kernel
theorem dX11_goes_46 : decode cX11_goes 46 = .ok (.iaload, 1) := by decide +kernel
theorem dX11_goes_47 : decode cX11_goes 47 = .ok (.if_icmp .gt 11, 3) := by decide +kernel
theorem dX11_goes_50 : decode cX11_goes 50 = .ok (.aload_n 0, 1) := by decide +kernel
theorem dX11_goes_51 : decode cX11_goes 51 = .ok (.invokevirtual 178, 3) := by decide +kernel
theorem dX11_goes_54 : decode cX11_goes 54 = .ok (.ifCond .ne 4, 3) := by decide +kernel
theorem dX11_goes_57 : decode cX11_goes 57 = .ok (.return_, 1) := by decide +kernel
theorem dX11_goes_58 : decode cX11_goes 58 = .ok (.aload_n 0, 1) := by decide +kernel
theorem dX11_goes_59 : decode cX11_goes 59 = .ok (.iload_n 1, 1) := by decide +kernel
theorem dX11_goes_60 : decode cX11_goes 60 = .ok (.iload_n 3, 1) := by decide +kernel
theorem dX11_goes_61 : decode cX11_goes 61 = .ok (.ifCond .eq 12, 3) := by decide +kernel
theorem dX11_goes_64 : decode cX11_goes 64 = .ok (.aload_n 0, 1) := by decide +kernel
theorem dX11_goes_65 : decode cX11_goes 65 = .ok (.getfield 19, 3) := by decide +kernel
theorem dX11_goes_68 : decode cX11_goes 68 = .ok (.iload_n 2, 1) := by decide +kernel
theorem dX11_goes_69 : decode cX11_goes 69 = .ok (.iaload, 1) := by decide +kernel
theorem dX11_goes_70 : decode cX11_goes 70 = .ok (.goto 11, 3) := by decide +kernel
theorem dX11_goes_73 : decode cX11_goes 73 = .ok (.aload_n 0, 1) := by decide +kernel
theorem dX11_goes_74 : decode cX11_goes 74 = .ok (.getfield 62, 3) := by decide +kernel
theorem dX11_goes_77 : decode cX11_goes 77 = .ok (.iload_n 1, 1) := by decide +kernel
theorem dX11_goes_78 : decode cX11_goes 78 = .ok (.iaload, 1) := by decide +kernel
theorem dX11_goes_79 : decode cX11_goes 79 = .ok (.iconst 1, 1) := by decide +kernel
theorem dX11_goes_80 : decode cX11_goes 80 = .ok (.iadd, 1) := by decide +kernel
theorem dX11_goes_81 : decode cX11_goes 81 = .ok (.iconst 0, 1) := by decide +kernel
theorem dX11_goes_82 : decode cX11_goes 82 = .ok (.iconst 0, 1) := by decide +kernel
theorem dX11_goes_83 : decode cX11_goes 83 = .ok (.invokevirtual 198, 3) := by decide +kernel
theorem dX11_goes_86 : decode cX11_goes 86 = .ok (.return_, 1) := by decide +kernel
theorem dX11_news_0 : decode cX11_news 0 = .ok (.aload_n 0, 1) := by decide +kernel
theorem dX11_news_1 : decode cX11_news 1 = .ok (.iload_n 1, 1) := by decide +kernel
theorem dX11_news_2 : decode cX11_news 2 = .ok (.aload_n 0, 1) := by decide +kernel
theorem dX11_news_3 : decode cX11_news 3 = .ok (.getfield 22, 3) := by decide +kernel
theorem dX11_news_6 : decode cX11_news 6 = .ok (.iload_n 2, 1) := by decide +kernel
theorem dX11_news_7 : decode cX11_news 7 = .ok (.iaload, 1) := by decide +kernel
theorem dX11_news_8 : decode cX11_news 8 = .ok (.invokevirtual 211, 3) := by decide +kernel
theorem dX11_news_11 : decode cX11_news 11 = .ok (.istore_n 3, 1) := by decide +kernel
theorem dX11_news_12 : decode cX11_news 12 = .ok (.aload_n 0, 1) := by decide +kernel
theorem dX11_news_13 : decode cX11_news 13 = .ok (.iconst 1, 1) := by decide +kernel
theorem dX11_news_14 : decode cX11_news 14 = .ok (.iload_n 3, 1) := by decide +kernel
theorem dX11_news_15 : decode cX11_news 15 = .ok (.iconst 0, 1) := by decide +kernel
theorem dX11_news_16 : decode cX11_news 16 = .ok (.bipush 64, 2) := by decide +kernel
theorem dX11_news_18 : decode cX11_news 18 = .ok (.invokestatic 122, 3) := by decide +kernel
theorem dX11_news_21 : decode cX11_news 21 = .ok (.ifCond .eq 10, 3) := by decide +kernel
theorem dX11_news_24 : decode cX11_news 24 = .ok (.iload_n 3, 1) := by decide +kernel
theorem dX11_news_25 : decode cX11_news 25 = .ok (.bipush 8, 2) := by decide +kernel
theorem dX11_news_27 : decode cX11_news 27 = .ok (.idiv, 1) := by decide +kernel
theorem dX11_news_28 : decode cX11_news 28 = .ok (.goto 4, 3) := by decide +kernel
theorem dX11_news_31 : decode cX11_news 31 = .ok (.iconst 0, 1) := by decide +kernel
theorem dX11_news_32 : decode cX11_news 32 = .ok (.iadd, 1) := by decide +kernel
theorem dX11_news_33 : decode cX11_news 33 = .ok (.invokevirtual 146, 3) := by decide +kernel
theorem dX11_news_36 : decode cX11_news 36 = .ok (.ifCond .ne 4, 3) := by decide +kernel
theorem dX11_news_39 : decode cX11_news 39 = .ok (.return_, 1) := by decide +kernel
theorem dX11_news_40 : decode cX11_news 40 = .ok (.iload_n 3, 1) := by decide +kernel
theorem dX11_news_41 : decode cX11_news 41 = .ok (.iconst 0, 1) := by decide +kernel
theorem dX11_news_42 : decode cX11_news 42 = .ok (.bipush 64, 2) := by decide +kernel
theorem dX11_news_44 : decode cX11_news 44 = .ok (.invokestatic 122, 3) := by decide +kernel
theorem dX11_news_47 : decode cX11_news 47 = .ok (.ifCond .ne 20, 3) := by decide +kernel
theorem dX11_news_50 : decode cX11_news 50 = .ok (.aload_n 0, 1) := by decide +kernel
theorem dX11_news_51 : decode cX11_news 51 = .ok (.iload_n 1, 1) := by decide +kernel
theorem dX11_news_52 : decode cX11_news 52 = .ok (.iload_n 3, 1) := by decide +kernel
theorem dX11_news_53 : decode cX11_news 53 = .ok (.ifCond .ge 8, 3) := by decide +kernel
theorem dX11_news_56 : decode cX11_news 56 = .ok (.bipush 6, 2) := by decide +kernel
theorem dX11_news_58 : decode cX11_news 58 = .ok (.goto 5, 3) := by decide +kernel
theorem dX11_news_61 : decode cX11_news 61 = .ok (.bipush 7, 2) := by decide +kernel
theorem dX11_news_63 : decode cX11_news 63 = .ok (.invokevirtual 208, 3) := by decide +kernel
theorem dX11_news_66 : decode cX11_news 66 = .ok (.return_, 1) := by decide +kernel
theorem dX11_news_67 : decode cX11_news 67 = .ok (.aload_n 0, 1) := by decide +kernel
theorem dX11_news_68 : decode cX11_news 68 = .ok (.getfield 93, 3) := by decide +kernel
theorem dX11_news_71 : decode cX11_news 71 = .ok (.aload_n 0, 1) := by decide +kernel
theorem dX11_news_72 : decode cX11_news 72 = .ok (.getfield 221, 3) := by decide +kernel
theorem dX11_news_75 : decode cX11_news 75 = .ok (.aload_n 0, 1) := by decide +kernel
theorem dX11_news_76 : decode cX11_news 76 = .ok (.getfield 19, 3) := by decide +kernel
theorem dX11_news_79 : decode cX11_news 79 = .ok (.iload_n 2, 1) := by decide +kernel
theorem dX11_news_80 : decode cX11_news 80 = .ok (.iaload, 1) := by decide +kernel
theorem dX11_news_81 : decode cX11_news 81 = .ok (.iastore, 1) := by decide +kernel
theorem dX11_news_82 : decode cX11_news 82 = .ok (.aload_n 0, 1) := by decide +kernel
theorem dX11_news_83 : decode cX11_news 83 = .ok (.getfield 96, 3) := by decide +kernel
theorem dX11_news_86 : decode cX11_news 86 = .ok (.aload_n 0, 1) := by decide +kernel
theorem dX11_news_87 : decode cX11_news 87 = .ok (.getfield 221, 3) := by decide +kernel
theorem dX11_news_90 : decode cX11_news 90 = .ok (.iload_n 3, 1) := by decide +kernel
theorem dX11_news_91 : decode cX11_news 91 = .ok (.iastore, 1) := by decide +kernel
theorem dX11_news_92 : decode cX11_news 92 = .ok (.aload_n 0, 1) := by decide +kernel
theorem dX11_news_93 : decode cX11_news 93 = .ok (.getfield 99, 3) := by decide +kernel
theorem dX11_news_96 : decode cX11_news 96 = .ok (.aload_n 0, 1) := by decide +kernel
theorem dX11_news_97 : decode cX11_news 97 = .ok (.getfield 221, 3) := by decide +kernel
theorem dX11_news_100 : decode cX11_news 100 = .ok (.aload_n 0, 1) := by decide +kernel
theorem dX11_news_101 : decode cX11_news 101 = .ok (.getfield 224, 3) := by decide +kernel
theorem dX11_news_104 : decode cX11_news 104 = .ok (.iastore, 1) := by decide +kernel
theorem dX11_news_105 : decode cX11_news 105 = .ok (.iconst 0, 1) := by decide +kernel
theorem dX11_news_106 : decode cX11_news 106 = .ok (.istore 4, 2) := by decide +kernel
theorem dX11_news_108 : decode cX11_news 108 = .ok (.iload 4, 2) := by decide +kernel
theorem dX11_news_110 : decode cX11_news 110 = .ok (.iload_n 3, 1) := by decide +kernel
theorem dX11_news_111 : decode cX11_news 111 = .ok (.if_icmp .ge 22, 3) := by decide +kernel
theorem dX11_news_114 : decode cX11_news 114 = .ok (.aload_n 0, 1) := by decide +kernel
theorem dX11_news_115 : decode cX11_news 115 = .ok (.getfield 103, 3) := by decide +kernel
theorem dX11_news_118 : decode cX11_news 118 = .ok (.aload_n 0, 1) := by decide +kernel
theorem dX11_news_119 : decode cX11_news 119 = .ok (.getfield 224, 3) := by decide +kernel
theorem dX11_news_122 : decode cX11_news 122 = .ok (.iload 4, 2) := by decide +kernel
theorem dX11_news_124 : decode cX11_news 124 = .ok (.iadd, 1) := by decide +kernel
theorem dX11_news_125 : decode cX11_news 125 = .ok (.lconst 0, 1) := by decide +kernel
theorem dX11_news_126 : decode cX11_news 126 = .ok (.lastore, 1) := by decide +kernel
theorem dX11_news_127 : decode cX11_news 127 = .ok (.iinc 4 1, 3) := by decide +kernel
theorem dX11_news_130 : decode cX11_news 130 = .ok (.goto (-22), 3) := by decide +kernel
theorem dX11_news_133 : decode cX11_news 133 = .ok (.aload_n 0, 1) := by decide +kernel
theorem dX11_news_134 : decode cX11_news 134 = .ok (.dup, 1) := by decide +kernel
theorem dX11_news_135 : decode cX11_news 135 = .ok (.getfield 224, 3) := by decide +kernel
theorem dX11_news_138 : decode cX11_news 138 = .ok (.iload_n 3, 1) := by decide +kernel
theorem dX11_news_139 : decode cX11_news 139 = .ok (.iadd, 1) := by decide +kernel
theorem dX11_news_140 : decode cX11_news 140 = .ok (.putfield 224, 3) := by decide +kernel
theorem dX11_news_143 : decode cX11_news 143 = .ok (.aload_n 0, 1) := by decide +kernel
theorem dX11_news_144 : decode cX11_news 144 = .ok (.getfield 68, 3) := by decide +kernel
theorem dX11_news_147 : decode cX11_news 147 = .ok (.iconst 3, 1) := by decide +kernel
theorem dX11_news_148 : decode cX11_news 148 = .ok (.iload_n 1, 1) := by decide +kernel
theorem dX11_news_149 : decode cX11_news 149 = .ok (.imul, 1) := by decide +kernel
theorem dX11_news_150 : decode cX11_news 150 = .ok (.aload_n 0, 1) := by decide +kernel
theorem dX11_news_151 : decode cX11_news 151 = .ok (.getfield 16, 3) := by decide +kernel
theorem dX11_news_154 : decode cX11_news 154 = .ok (.iload_n 2, 1) := by decide +kernel
theorem dX11_news_155 : decode cX11_news 155 = .ok (.iaload, 1) := by decide +kernel
theorem dX11_news_156 : decode cX11_news 156 = .ok (.iadd, 1) := by decide +kernel
theorem dX11_news_157 : decode cX11_news 157 = .ok (.aload_n 0, 1) := by decide +kernel
theorem dX11_news_158 : decode cX11_news 158 = .ok (.getfield 221, 3) := by decide +kernel
theorem dX11_news_161 : decode cX11_news 161 = .ok (.iastore, 1) := by decide +kernel
theorem dX11_news_162 : decode cX11_news 162 = .ok (.aload_n 0, 1) := by decide +kernel
theorem dX11_news_163 : decode cX11_news 163 = .ok (.dup, 1) := by decide +kernel
theorem dX11_news_164 : decode cX11_news 164 = .ok (.getfield 221, 3) := by decide +kernel
theorem dX11_news_167 : decode cX11_news 167 = .ok (.iconst 1, 1) := by decide +kernel
theorem dX11_news_168 : decode cX11_news 168 = .ok (.iadd, 1) := by decide +kernel
theorem dX11_news_169 : decode cX11_news 169 = .ok (.putfield 221, 3) := by decide +kernel
theorem dX11_news_172 : decode cX11_news 172 = .ok (.aload_n 0, 1) := by decide +kernel
theorem dX11_news_173 : decode cX11_news 173 = .ok (.iload_n 1, 1) := by decide +kernel
theorem dX11_news_174 : decode cX11_news 174 = .ok (.aload_n 0, 1) := by decide +kernel
theorem dX11_news_175 : decode cX11_news 175 = .ok (.getfield 62, 3) := by decide +kernel
theorem dX11_news_178 : decode cX11_news 178 = .ok (.iload_n 1, 1) := by decide +kernel
theorem dX11_news_179 : decode cX11_news 179 = .ok (.iaload, 1) := by decide +kernel
theorem dX11_news_180 : decode cX11_news 180 = .ok (.iconst 1, 1) := by decide +kernel
theorem dX11_news_181 : decode cX11_news 181 = .ok (.iadd, 1) := by decide +kernel
theorem dX11_news_182 : decode cX11_news 182 = .ok (.iconst 0, 1) := by decide +kernel
theorem dX11_news_183 : decode cX11_news 183 = .ok (.iconst 0, 1) := by decide +kernel
theorem dX11_news_184 : decode cX11_news 184 = .ok (.invokevirtual 198, 3) := by decide +kernel
theorem dX11_news_187 : decode cX11_news 187 = .ok (.return_, 1) := by decide +kernel
theorem dX11_reckons_0 : decode cX11_reckons 0 = .ok (.aload_n 0, 1) := by decide +kernel
theorem dX11_reckons_1 : decode cX11_reckons 1 = .ok (.getfield 16, 3) := by decide +kernel
theorem dX11_reckons_4 : decode cX11_reckons 4 = .ok (.iload_n 2, 1) := by decide +kernel
theorem dX11_reckons_5 : decode cX11_reckons 5 = .ok (.iaload, 1) := by decide +kernel
theorem dX11_reckons_6 : decode cX11_reckons 6 = .ok (.istore_n 3, 1) := by decide +kernel
theorem dX11_reckons_7 : decode cX11_reckons 7 = .ok (.aload_n 0, 1) := by decide +kernel
theorem dX11_reckons_8 : decode cX11_reckons 8 = .ok (.getfield 13, 3) := by decide +kernel
theorem dX11_reckons_11 : decode cX11_reckons 11 = .ok (.iload_n 2, 1) := by decide +kernel
theorem dX11_reckons_12 : decode cX11_reckons 12 = .ok (.iaload, 1) := by decide +kernel
theorem dX11_reckons_13 : decode cX11_reckons 13 = .ok (.ifCond .ne 7, 3) := by decide +kernel
theorem dX11_reckons_16 : decode cX11_reckons 16 = .ok (.iconst 0, 1) := by decide +kernel
theorem dX11_reckons_17 : decode cX11_reckons 17 = .ok (.goto 14, 3) := by decide +kernel
theorem dX11_reckons_20 : decode cX11_reckons 20 = .ok (.aload_n 0, 1) := by decide +kernel
theorem dX11_reckons_21 : decode cX11_reckons 21 = .ok (.iload_n 1, 1) := by decide +kernel
theorem dX11_reckons_22 : decode cX11_reckons 22 = .ok (.aload_n 0, 1) := by decide +kernel
theorem dX11_reckons_23 : decode cX11_reckons 23 = .ok (.getfield 19, 3) := by decide +kernel
theorem dX11_reckons_26 : decode cX11_reckons 26 = .ok (.iload_n 2, 1) := by decide +kernel
theorem dX11_reckons_27 : decode cX11_reckons 27 = .ok (.iaload, 1) := by decide +kernel
theorem dX11_reckons_28 : decode cX11_reckons 28 = .ok (.invokevirtual 211, 3) := by decide +kernel
theorem dX11_reckons_31 : decode cX11_reckons 31 = .ok (.istore 4, 2) := by decide +kernel
theorem dX11_reckons_33 : decode cX11_reckons 33 = .ok (.aload_n 0, 1) := by decide +kernel
theorem dX11_reckons_34 : decode cX11_reckons 34 = .ok (.getfield 13, 3) := by decide +kernel
theorem dX11_reckons_37 : decode cX11_reckons 37 = .ok (.iload_n 2, 1) := by decide +kernel
theorem dX11_reckons_38 : decode cX11_reckons 38 = .ok (.iaload, 1) := by decide +kernel
theorem dX11_reckons_39 : decode cX11_reckons 39 = .ok (.ifCond .ne 7, 3) := by decide +kernel
theorem dX11_reckons_42 : decode cX11_reckons 42 = .ok (.iconst 0, 1) := by decide +kernel
theorem dX11_reckons_43 : decode cX11_reckons 43 = .ok (.goto 14, 3) := by decide +kernel
theorem dX11_reckons_46 : decode cX11_reckons 46 = .ok (.aload_n 0, 1) := by decide +kernel
theorem dX11_reckons_47 : decode cX11_reckons 47 = .ok (.iload_n 1, 1) := by decide +kernel
theorem dX11_reckons_48 : decode cX11_reckons 48 = .ok (.aload_n 0, 1) := by decide +kernel
theorem dX11_reckons_49 : decode cX11_reckons 49 = .ok (.getfield 22, 3) := by decide +kernel
theorem dX11_reckons_52 : decode cX11_reckons 52 = .ok (.iload_n 2, 1) := by decide +kernel
theorem dX11_reckons_53 : decode cX11_reckons 53 = .ok (.iaload, 1) := by decide +kernel
theorem dX11_reckons_54 : decode cX11_reckons 54 = .ok (.invokevirtual 211, 3) := by decide +kernel
theorem dX11_reckons_57 : decode cX11_reckons 57 = .ok (.istore 5, 2) := by decide +kernel
theorem dX11_reckons_59 : decode cX11_reckons 59 = .ok (.aload_n 0, 1) := by decide +kernel
theorem dX11_reckons_60 : decode cX11_reckons 60 = .ok (.getfield 13, 3) := by decide +kernel
theorem dX11_reckons_63 : decode cX11_reckons 63 = .ok (.iload_n 2, 1) := by decide +kernel
theorem dX11_reckons_64 : decode cX11_reckons 64 = .ok (.iaload, 1) := by decide +kernel
theorem dX11_reckons_65 : decode cX11_reckons 65 = .ok (.tableswitch 84 0 3 #[31, 45, 58, 71], 31) := by decide +kernel
theorem dX11_reckons_96 : decode cX11_reckons 96 = .ok (.aload_n 0, 1) := by decide +kernel
theorem dX11_reckons_97 : decode cX11_reckons 97 = .ok (.iload_n 1, 1) := by decide +kernel
theorem dX11_reckons_98 : decode cX11_reckons 98 = .ok (.iload_n 3, 1) := by decide +kernel
theorem dX11_reckons_99 : decode cX11_reckons 99 = .ok (.aload_n 0, 1) := by decide +kernel
theorem dX11_reckons_100 : decode cX11_reckons 100 = .ok (.getfield 19, 3) := by decide +kernel
theorem dX11_reckons_103 : decode cX11_reckons 103 = .ok (.iload_n 2, 1) := by decide +kernel
theorem dX11_reckons_104 : decode cX11_reckons 104 = .ok (.iaload, 1) := by decide +kernel
theorem dX11_reckons_105 : decode cX11_reckons 105 = .ok (.invokevirtual 227, 3) := by decide +kernel
theorem dX11_reckons_108 : decode cX11_reckons 108 = .ok (.iconst 0, 1) := by decide +kernel
theorem dX11_reckons_109 : decode cX11_reckons 109 = .ok (.ireturn, 1) := by decide +kernel
theorem dX11_reckons_110 : decode cX11_reckons 110 = .ok (.aload_n 0, 1) := by decide +kernel
theorem dX11_reckons_111 : decode cX11_reckons 111 = .ok (.iload_n 1, 1) := by decide +kernel
theorem dX11_reckons_112 : decode cX11_reckons 112 = .ok (.iload_n 3, 1) := by decide +kernel
theorem dX11_reckons_113 : decode cX11_reckons 113 = .ok (.iload 4, 2) := by decide +kernel
theorem dX11_reckons_115 : decode cX11_reckons 115 = .ok (.iload 5, 2) := by decide +kernel
theorem dX11_reckons_117 : decode cX11_reckons 117 = .ok (.iadd, 1) := by decide +kernel
theorem dX11_reckons_118 : decode cX11_reckons 118 = .ok (.invokevirtual 227, 3) := by decide +kernel
theorem dX11_reckons_121 : decode cX11_reckons 121 = .ok (.iconst 0, 1) := by decide +kernel
theorem dX11_reckons_122 : decode cX11_reckons 122 = .ok (.ireturn, 1) := by decide +kernel
theorem dX11_reckons_123 : decode cX11_reckons 123 = .ok (.aload_n 0, 1) := by decide +kernel
theorem dX11_reckons_124 : decode cX11_reckons 124 = .ok (.iload_n 1, 1) := by decide +kernel
theorem dX11_reckons_125 : decode cX11_reckons 125 = .ok (.iload_n 3, 1) := by decide +kernel
theorem dX11_reckons_126 : decode cX11_reckons 126 = .ok (.iload 4, 2) := by decide +kernel
theorem dX11_reckons_128 : decode cX11_reckons 128 = .ok (.iload 5, 2) := by decide +kernel
theorem dX11_reckons_130 : decode cX11_reckons 130 = .ok (.isub, 1) := by decide +kernel
theorem dX11_reckons_131 : decode cX11_reckons 131 = .ok (.invokevirtual 227, 3) := by decide +kernel
theorem dX11_reckons_134 : decode cX11_reckons 134 = .ok (.iconst 0, 1) := by decide +kernel
theorem dX11_reckons_135 : decode cX11_reckons 135 = .ok (.ireturn, 1) := by decide +kernel
theorem dX11_reckons_136 : decode cX11_reckons 136 = .ok (.aload_n 0, 1) := by decide +kernel
theorem dX11_reckons_137 : decode cX11_reckons 137 = .ok (.iload_n 1, 1) := by decide +kernel
theorem dX11_reckons_138 : decode cX11_reckons 138 = .ok (.iload_n 3, 1) := by decide +kernel
theorem dX11_reckons_139 : decode cX11_reckons 139 = .ok (.iload 4, 2) := by decide +kernel
theorem dX11_reckons_141 : decode cX11_reckons 141 = .ok (.iload 5, 2) := by decide +kernel
theorem dX11_reckons_143 : decode cX11_reckons 143 = .ok (.imul, 1) := by decide +kernel
theorem dX11_reckons_144 : decode cX11_reckons 144 = .ok (.invokevirtual 227, 3) := by decide +kernel
theorem dX11_reckons_147 : decode cX11_reckons 147 = .ok (.iconst 0, 1) := by decide +kernel
theorem dX11_reckons_148 : decode cX11_reckons 148 = .ok (.ireturn, 1) := by decide +kernel
theorem dX11_reckons_149 : decode cX11_reckons 149 = .ok (.iload 5, 2) := by decide +kernel
theorem dX11_reckons_151 : decode cX11_reckons 151 = .ok (.ifCond .ne 5, 3) := by decide +kernel
theorem dX11_reckons_154 : decode cX11_reckons 154 = .ok (.iconst 1, 1) := by decide +kernel
theorem dX11_reckons_155 : decode cX11_reckons 155 = .ok (.ireturn, 1) := by decide +kernel
theorem dX11_reckons_156 : decode cX11_reckons 156 = .ok (.aload_n 0, 1) := by decide +kernel
theorem dX11_reckons_157 : decode cX11_reckons 157 = .ok (.iload_n 1, 1) := by decide +kernel
theorem dX11_reckons_158 : decode cX11_reckons 158 = .ok (.iload_n 3, 1) := by decide +kernel
theorem dX11_reckons_159 : decode cX11_reckons 159 = .ok (.aload_n 0, 1) := by decide +kernel
theorem dX11_reckons_160 : decode cX11_reckons 160 = .ok (.getfield 13, 3) := by decide +kernel
theorem dX11_reckons_163 : decode cX11_reckons 163 = .ok (.iload_n 2, 1) := by decide +kernel
theorem dX11_reckons_164 : decode cX11_reckons 164 = .ok (.iaload, 1) := by decide +kernel
theorem dX11_reckons_165 : decode cX11_reckons 165 = .ok (.iconst 4, 1) := by decide +kernel
theorem dX11_reckons_166 : decode cX11_reckons 166 = .ok (.if_icmp .ne 11, 3) := by decide +kernel
theorem dX11_reckons_169 : decode cX11_reckons 169 = .ok (.iload 4, 2) := by decide +kernel
theorem dX11_reckons_171 : decode cX11_reckons 171 = .ok (.iload 5, 2) := by decide +kernel
theorem dX11_reckons_173 : decode cX11_reckons 173 = .ok (.idiv, 1) := by decide +kernel
theorem dX11_reckons_174 : decode cX11_reckons 174 = .ok (.goto 8, 3) := by decide +kernel
theorem dX11_reckons_177 : decode cX11_reckons 177 = .ok (.iload 4, 2) := by decide +kernel
theorem dX11_reckons_179 : decode cX11_reckons 179 = .ok (.iload 5, 2) := by decide +kernel
theorem dX11_reckons_181 : decode cX11_reckons 181 = .ok (.irem, 1) := by decide +kernel
theorem dX11_reckons_182 : decode cX11_reckons 182 = .ok (.invokevirtual 227, 3) := by decide +kernel
theorem dX11_reckons_185 : decode cX11_reckons 185 = .ok (.iconst 0, 1) := by decide +kernel
theorem dX11_reckons_186 : decode cX11_reckons 186 = .ok (.ireturn, 1) := by decide +kernel
theorem dX11_rows_0 : decode cX11_rows 0 = .ok (.aload_n 0, 1) := by decide +kernel
theorem dX11_rows_1 : decode cX11_rows 1 = .ok (.getfield 13, 3) := by decide +kernel
theorem dX11_rows_4 : decode cX11_rows 4 = .ok (.iload_n 2, 1) := by decide +kernel
theorem dX11_rows_5 : decode cX11_rows 5 = .ok (.iaload, 1) := by decide +kernel
theorem dX11_rows_6 : decode cX11_rows 6 = .ok (.istore_n 3, 1) := by decide +kernel
theorem dX11_rows_7 : decode cX11_rows 7 = .ok (.iload_n 3, 1) := by decide +kernel
theorem dX11_rows_8 : decode cX11_rows 8 = .ok (.bipush 9, 2) := by decide +kernel
theorem dX11_rows_10 : decode cX11_rows 10 = .ok (.if_icmp .ne 92, 3) := by decide +kernel
theorem dX11_rows_13 : decode cX11_rows 13 = .ok (.aload_n 0, 1) := by decide +kernel
theorem dX11_rows_14 : decode cX11_rows 14 = .ok (.getfield 68, 3) := by decide +kernel
theorem dX11_rows_17 : decode cX11_rows 17 = .ok (.iconst 3, 1) := by decide +kernel
theorem dX11_rows_18 : decode cX11_rows 18 = .ok (.iload_n 1, 1) := by decide +kernel
theorem dX11_rows_19 : decode cX11_rows 19 = .ok (.imul, 1) := by decide +kernel
theorem dX11_rows_20 : decode cX11_rows 20 = .ok (.aload_n 0, 1) := by decide +kernel
theorem dX11_rows_21 : decode cX11_rows 21 = .ok (.getfield 16, 3) := by decide +kernel
theorem dX11_rows_24 : decode cX11_rows 24 = .ok (.iload_n 2, 1) := by decide +kernel
theorem dX11_rows_25 : decode cX11_rows 25 = .ok (.iaload, 1) := by decide +kernel
theorem dX11_rows_26 : decode cX11_rows 26 = .ok (.iadd, 1) := by decide +kernel
theorem dX11_rows_27 : decode cX11_rows 27 = .ok (.iaload, 1) := by decide +kernel
theorem dX11_rows_28 : decode cX11_rows 28 = .ok (.istore 4, 2) := by decide +kernel
theorem dX11_rows_30 : decode cX11_rows 30 = .ok (.aload_n 0, 1) := by decide +kernel
theorem dX11_rows_31 : decode cX11_rows 31 = .ok (.iload_n 1, 1) := by decide +kernel
theorem dX11_rows_32 : decode cX11_rows 32 = .ok (.aload_n 0, 1) := by decide +kernel
theorem dX11_rows_33 : decode cX11_rows 33 = .ok (.getfield 22, 3) := by decide +kernel
theorem dX11_rows_36 : decode cX11_rows 36 = .ok (.iload_n 2, 1) := by decide +kernel
theorem dX11_rows_37 : decode cX11_rows 37 = .ok (.iaload, 1) := by decide +kernel
theorem dX11_rows_38 : decode cX11_rows 38 = .ok (.invokevirtual 211, 3) := by decide +kernel
theorem dX11_rows_41 : decode cX11_rows 41 = .ok (.istore 5, 2) := by decide +kernel
theorem dX11_rows_43 : decode cX11_rows 43 = .ok (.aload_n 0, 1) := by decide +kernel
theorem dX11_rows_44 : decode cX11_rows 44 = .ok (.iload 4, 2) := by decide +kernel
theorem dX11_rows_46 : decode cX11_rows 46 = .ok (.aload_n 0, 1) := by decide +kernel
theorem dX11_rows_47 : decode cX11_rows 47 = .ok (.getfield 19, 3) := by decide +kernel
theorem dX11_rows_50 : decode cX11_rows 50 = .ok (.iload_n 2, 1) := by decide +kernel
theorem dX11_rows_51 : decode cX11_rows 51 = .ok (.iaload, 1) := by decide +kernel
theorem dX11_rows_52 : decode cX11_rows 52 = .ok (.iload 5, 2) := by decide +kernel
theorem dX11_rows_54 : decode cX11_rows 54 = .ok (.invokevirtual 231, 3) := by decide +kernel
theorem dX11_rows_57 : decode cX11_rows 57 = .ok (.istore 6, 2) := by decide +kernel
theorem dX11_rows_59 : decode cX11_rows 59 = .ok (.iload 6, 2) := by decide +kernel
theorem dX11_rows_61 : decode cX11_rows 61 = .ok (.ifCond .ne 38, 3) := by decide +kernel
theorem dX11_rows_64 : decode cX11_rows 64 = .ok (.aload_n 0, 1) := by decide +kernel
theorem dX11_rows_65 : decode cX11_rows 65 = .ok (.getfield 103, 3) := by decide +kernel
theorem dX11_rows_68 : decode cX11_rows 68 = .ok (.aload_n 0, 1) := by decide +kernel
theorem dX11_rows_69 : decode cX11_rows 69 = .ok (.getfield 99, 3) := by decide +kernel
theorem dX11_rows_72 : decode cX11_rows 72 = .ok (.iload 4, 2) := by decide +kernel
theorem dX11_rows_74 : decode cX11_rows 74 = .ok (.iaload, 1) := by decide +kernel
theorem dX11_rows_75 : decode cX11_rows 75 = .ok (.iload 5, 2) := by decide +kernel
theorem dX11_rows_77 : decode cX11_rows 77 = .ok (.iadd, 1) := by decide +kernel
theorem dX11_rows_78 : decode cX11_rows 78 = .ok (.aload_n 0, 1) := by decide +kernel
theorem dX11_rows_79 : decode cX11_rows 79 = .ok (.getfield 19, 3) := by decide +kernel
theorem dX11_rows_82 : decode cX11_rows 82 = .ok (.iload_n 2, 1) := by decide +kernel
theorem dX11_rows_83 : decode cX11_rows 83 = .ok (.iaload, 1) := by decide +kernel
theorem dX11_rows_84 : decode cX11_rows 84 = .ok (.aload_n 0, 1) := by decide +kernel
theorem dX11_rows_85 : decode cX11_rows 85 = .ok (.iload_n 1, 1) := by decide +kernel
theorem dX11_rows_86 : decode cX11_rows 86 = .ok (.aload_n 0, 1) := by decide +kernel
theorem dX11_rows_87 : decode cX11_rows 87 = .ok (.getfield 25, 3) := by decide +kernel
theorem dX11_rows_90 : decode cX11_rows 90 = .ok (.iload_n 2, 1) := by decide +kernel
theorem dX11_rows_91 : decode cX11_rows 91 = .ok (.iaload, 1) := by decide +kernel
theorem dX11_rows_92 : decode cX11_rows 92 = .ok (.invokevirtual 211, 3) := by decide +kernel
theorem dX11_rows_95 : decode cX11_rows 95 = .ok (.invokestatic 235, 3) := by decide +kernel
theorem dX11_rows_98 : decode cX11_rows 98 = .ok (.lastore, 1) := by decide +kernel
theorem dX11_rows_99 : decode cX11_rows 99 = .ok (.iload 6, 2) := by decide +kernel
theorem dX11_rows_101 : decode cX11_rows 101 = .ok (.ireturn, 1) := by decide +kernel
theorem dX11_rows_102 : decode cX11_rows 102 = .ok (.iload_n 3, 1) := by decide +kernel
theorem dX11_rows_103 : decode cX11_rows 103 = .ok (.bipush 10, 2) := by decide +kernel
theorem dX11_rows_105 : decode cX11_rows 105 = .ok (.if_icmp .ne 84, 3) := by decide +kernel
theorem dX11_rows_108 : decode cX11_rows 108 = .ok (.aload_n 0, 1) := by decide +kernel
theorem dX11_rows_109 : decode cX11_rows 109 = .ok (.getfield 68, 3) := by decide +kernel
theorem dX11_rows_112 : decode cX11_rows 112 = .ok (.iconst 3, 1) := by decide +kernel
theorem dX11_rows_113 : decode cX11_rows 113 = .ok (.iload_n 1, 1) := by decide +kernel
theorem dX11_rows_114 : decode cX11_rows 114 = .ok (.imul, 1) := by decide +kernel
theorem dX11_rows_115 : decode cX11_rows 115 = .ok (.aload_n 0, 1) := by decide +kernel
theorem dX11_rows_116 : decode cX11_rows 116 = .ok (.getfield 19, 3) := by decide +kernel
theorem dX11_rows_119 : decode cX11_rows 119 = .ok (.iload_n 2, 1) := by decide +kernel
theorem dX11_rows_120 : decode cX11_rows 120 = .ok (.iaload, 1) := by decide +kernel
theorem dX11_rows_121 : decode cX11_rows 121 = .ok (.iadd, 1) := by decide +kernel
theorem dX11_rows_122 : decode cX11_rows 122 = .ok (.iaload, 1) := by decide +kernel
theorem dX11_rows_123 : decode cX11_rows 123 = .ok (.istore 4, 2) := by decide +kernel
theorem dX11_rows_125 : decode cX11_rows 125 = .ok (.aload_n 0, 1) := by decide +kernel
theorem dX11_rows_126 : decode cX11_rows 126 = .ok (.iload_n 1, 1) := by decide +kernel
theorem dX11_rows_127 : decode cX11_rows 127 = .ok (.aload_n 0, 1) := by decide +kernel
theorem dX11_rows_128 : decode cX11_rows 128 = .ok (.getfield 25, 3) := by decide +kernel
theorem dX11_rows_131 : decode cX11_rows 131 = .ok (.iload_n 2, 1) := by decide +kernel
theorem dX11_rows_132 : decode cX11_rows 132 = .ok (.iaload, 1) := by decide +kernel
theorem dX11_rows_133 : decode cX11_rows 133 = .ok (.invokevirtual 211, 3) := by decide +kernel
theorem dX11_rows_136 : decode cX11_rows 136 = .ok (.istore 5, 2) := by decide +kernel
theorem dX11_rows_138 : decode cX11_rows 138 = .ok (.aload_n 0, 1) := by decide +kernel
theorem dX11_rows_139 : decode cX11_rows 139 = .ok (.iload 4, 2) := by decide +kernel
theorem dX11_rows_141 : decode cX11_rows 141 = .ok (.aload_n 0, 1) := by decide +kernel
theorem dX11_rows_142 : decode cX11_rows 142 = .ok (.getfield 22, 3) := by decide +kernel
theorem dX11_rows_145 : decode cX11_rows 145 = .ok (.iload_n 2, 1) := by decide +kernel
theorem dX11_rows_146 : decode cX11_rows 146 = .ok (.iaload, 1) := by decide +kernel
theorem dX11_rows_147 : decode cX11_rows 147 = .ok (.iload 5, 2) := by decide +kernel
theorem dX11_rows_149 : decode cX11_rows 149 = .ok (.invokevirtual 231, 3) := by decide +kernel
theorem dX11_rows_152 : decode cX11_rows 152 = .ok (.istore 6, 2) := by decide +kernel
theorem dX11_rows_154 : decode cX11_rows 154 = .ok (.iload 6, 2) := by decide +kernel
theorem dX11_rows_156 : decode cX11_rows 156 = .ok (.ifCond .ne 30, 3) := by decide +kernel
theorem dX11_rows_159 : decode cX11_rows 159 = .ok (.aload_n 0, 1) := by decide +kernel
theorem dX11_rows_160 : decode cX11_rows 160 = .ok (.iload_n 1, 1) := by decide +kernel
theorem dX11_rows_161 : decode cX11_rows 161 = .ok (.aload_n 0, 1) := by decide +kernel
theorem dX11_rows_162 : decode cX11_rows 162 = .ok (.getfield 16, 3) := by decide +kernel
theorem dX11_rows_165 : decode cX11_rows 165 = .ok (.iload_n 2, 1) := by decide +kernel
theorem dX11_rows_166 : decode cX11_rows 166 = .ok (.iaload, 1) := by decide +kernel
theorem dX11_rows_167 : decode cX11_rows 167 = .ok (.aload_n 0, 1) := by decide +kernel
theorem dX11_rows_168 : decode cX11_rows 168 = .ok (.getfield 103, 3) := by decide +kernel
theorem dX11_rows_171 : decode cX11_rows 171 = .ok (.aload_n 0, 1) := by decide +kernel
theorem dX11_rows_172 : decode cX11_rows 172 = .ok (.getfield 99, 3) := by decide +kernel
theorem dX11_rows_175 : decode cX11_rows 175 = .ok (.iload 4, 2) := by decide +kernel
theorem dX11_rows_177 : decode cX11_rows 177 = .ok (.iaload, 1) := by decide +kernel
theorem dX11_rows_178 : decode cX11_rows 178 = .ok (.iload 5, 2) := by decide +kernel
theorem dX11_rows_180 : decode cX11_rows 180 = .ok (.iadd, 1) := by decide +kernel
theorem dX11_rows_181 : decode cX11_rows 181 = .ok (.laload, 1) := by decide +kernel
theorem dX11_rows_182 : decode cX11_rows 182 = .ok (.l2i, 1) := by decide +kernel
theorem dX11_rows_183 : decode cX11_rows 183 = .ok (.invokevirtual 227, 3) := by decide +kernel
theorem dX11_rows_186 : decode cX11_rows 186 = .ok (.iload 6, 2) := by decide +kernel
theorem dX11_rows_188 : decode cX11_rows 188 = .ok (.ireturn, 1) := by decide +kernel
theorem dX11_rows_189 : decode cX11_rows 189 = .ok (.iload_n 3, 1) := by decide +kernel
theorem dX11_rows_190 : decode cX11_rows 190 = .ok (.bipush 11, 2) := by decide +kernel
theorem dX11_rows_192 : decode cX11_rows 192 = .ok (.if_icmp .ne 49, 3) := by decide +kernel
theorem dX11_rows_195 : decode cX11_rows 195 = .ok (.aload_n 0, 1) := by decide +kernel
theorem dX11_rows_196 : decode cX11_rows 196 = .ok (.getfield 68, 3) := by decide +kernel
theorem dX11_rows_199 : decode cX11_rows 199 = .ok (.iconst 3, 1) := by decide +kernel
theorem dX11_rows_200 : decode cX11_rows 200 = .ok (.iload_n 1, 1) := by decide +kernel
theorem dX11_rows_201 : decode cX11_rows 201 = .ok (.imul, 1) := by decide +kernel
theorem dX11_rows_202 : decode cX11_rows 202 = .ok (.aload_n 0, 1) := by decide +kernel
theorem dX11_rows_203 : decode cX11_rows 203 = .ok (.getfield 19, 3) := by decide +kernel
theorem dX11_rows_206 : decode cX11_rows 206 = .ok (.iload_n 2, 1) := by decide +kernel
theorem dX11_rows_207 : decode cX11_rows 207 = .ok (.iaload, 1) := by decide +kernel
theorem dX11_rows_208 : decode cX11_rows 208 = .ok (.iadd, 1) := by decide +kernel
theorem dX11_rows_209 : decode cX11_rows 209 = .ok (.iaload, 1) := by decide +kernel
theorem dX11_rows_210 : decode cX11_rows 210 = .ok (.istore 4, 2) := by decide +kernel
theorem dX11_rows_212 : decode cX11_rows 212 = .ok (.iload 4, 2) := by decide +kernel
theorem dX11_rows_214 : decode cX11_rows 214 = .ok (.bipush (-3), 2) := by decide +kernel
theorem dX11_rows_216 : decode cX11_rows 216 = .ok (.if_icmp .ne 5, 3) := by decide +kernel
theorem dX11_rows_219 : decode cX11_rows 219 = .ok (.iconst 2, 1) := by decide +kernel
theorem dX11_rows_220 : decode cX11_rows 220 = .ok (.ireturn, 1) := by decide +kernel
theorem dX11_rows_221 : decode cX11_rows 221 = .ok (.aload_n 0, 1) := by decide +kernel
theorem dX11_rows_222 : decode cX11_rows 222 = .ok (.iload_n 1, 1) := by decide +kernel
theorem dX11_rows_223 : decode cX11_rows 223 = .ok (.aload_n 0, 1) := by decide +kernel
theorem dX11_rows_224 : decode cX11_rows 224 = .ok (.getfield 16, 3) := by decide +kernel
theorem dX11_rows_227 : decode cX11_rows 227 = .ok (.iload_n 2, 1) := by decide +kernel
theorem dX11_rows_228 : decode cX11_rows 228 = .ok (.iaload, 1) := by decide +kernel
theorem dX11_rows_229 : decode cX11_rows 229 = .ok (.aload_n 0, 1) := by decide +kernel
theorem dX11_rows_230 : decode cX11_rows 230 = .ok (.getfield 96, 3) := by decide +kernel
theorem dX11_rows_233 : decode cX11_rows 233 = .ok (.iload 4, 2) := by decide +kernel
theorem dX11_rows_235 : decode cX11_rows 235 = .ok (.iaload, 1) := by decide +kernel
theorem dX11_rows_236 : decode cX11_rows 236 = .ok (.invokevirtual 227, 3) := by decide +kernel
theorem dX11_rows_239 : decode cX11_rows 239 = .ok (.iconst 0, 1) := by decide +kernel
theorem dX11_rows_240 : decode cX11_rows 240 = .ok (.ireturn, 1) := by decide +kernel
theorem dX11_rows_241 : decode cX11_rows 241 = .ok (.aload_n 0, 1) := by decide +kernel
theorem dX11_rows_242 : decode cX11_rows 242 = .ok (.aload_n 0, 1) := by decide +kernel
theorem dX11_rows_243 : decode cX11_rows 243 = .ok (.getfield 68, 3) := by decide +kernel
theorem dX11_rows_246 : decode cX11_rows 246 = .ok (.iconst 3, 1) := by decide +kernel
theorem dX11_rows_247 : decode cX11_rows 247 = .ok (.iload_n 1, 1) := by decide +kernel
theorem dX11_rows_248 : decode cX11_rows 248 = .ok (.imul, 1) := by decide +kernel
theorem dX11_rows_249 : decode cX11_rows 249 = .ok (.aload_n 0, 1) := by decide +kernel
theorem dX11_rows_250 : decode cX11_rows 250 = .ok (.getfield 16, 3) := by decide +kernel
theorem dX11_rows_253 : decode cX11_rows 253 = .ok (.iload_n 2, 1) := by decide +kernel
theorem dX11_rows_254 : decode cX11_rows 254 = .ok (.iaload, 1) := by decide +kernel
theorem dX11_rows_255 : decode cX11_rows 255 = .ok (.iadd, 1) := by decide +kernel
theorem dX11_rows_256 : decode cX11_rows 256 = .ok (.iaload, 1) := by decide +kernel
theorem dX11_rows_257 : decode cX11_rows 257 = .ok (.aload_n 0, 1) := by decide +kernel
theorem dX11_rows_258 : decode cX11_rows 258 = .ok (.getfield 68, 3) := by decide +kernel
theorem dX11_rows_261 : decode cX11_rows 261 = .ok (.iconst 3, 1) := by decide +kernel
theorem dX11_rows_262 : decode cX11_rows 262 = .ok (.iload_n 1, 1) := by decide +kernel
theorem dX11_rows_263 : decode cX11_rows 263 = .ok (.imul, 1) := by decide +kernel
theorem dX11_rows_264 : decode cX11_rows 264 = .ok (.aload_n 0, 1) := by decide +kernel
theorem dX11_rows_265 : decode cX11_rows 265 = .ok (.getfield 19, 3) := by decide +kernel
theorem dX11_rows_268 : decode cX11_rows 268 = .ok (.iload_n 2, 1) := by decide +kernel
theorem dX11_rows_269 : decode cX11_rows 269 = .ok (.iaload, 1) := by decide +kernel
theorem dX11_rows_270 : decode cX11_rows 270 = .ok (.iadd, 1) := by decide +kernel
theorem dX11_rows_271 : decode cX11_rows 271 = .ok (.iaload, 1) := by decide +kernel
theorem dX11_rows_272 : decode cX11_rows 272 = .ok (.aload_n 0, 1) := by decide +kernel
theorem dX11_rows_273 : decode cX11_rows 273 = .ok (.iload_n 1, 1) := by decide +kernel
theorem dX11_rows_274 : decode cX11_rows 274 = .ok (.aload_n 0, 1) := by decide +kernel
theorem dX11_rows_275 : decode cX11_rows 275 = .ok (.getfield 22, 3) := by decide +kernel
theorem dX11_rows_278 : decode cX11_rows 278 = .ok (.iload_n 2, 1) := by decide +kernel
theorem dX11_rows_279 : decode cX11_rows 279 = .ok (.iaload, 1) := by decide +kernel
theorem dX11_rows_280 : decode cX11_rows 280 = .ok (.invokevirtual 211, 3) := by decide +kernel
theorem dX11_rows_283 : decode cX11_rows 283 = .ok (.invokevirtual 239, 3) := by decide +kernel
theorem dX11_rows_286 : decode cX11_rows 286 = .ok (.ireturn, 1) := by decide +kernel
theorem dX11_look_0 : decode cX11_look 0 = .ok (.iload_n 1, 1) := by decide +kernel
theorem dX11_look_1 : decode cX11_look 1 = .ok (.bipush (-3), 2) := by decide +kernel
theorem dX11_look_3 : decode cX11_look 3 = .ok (.if_icmp .ne 7, 3) := by decide +kernel
theorem dX11_look_6 : decode cX11_look 6 = .ok (.iconst 2, 1) := by decide +kernel
theorem dX11_look_7 : decode cX11_look 7 = .ok (.goto 38, 3) := by decide +kernel
theorem dX11_look_10 : decode cX11_look 10 = .ok (.aload_n 0, 1) := by decide +kernel
theorem dX11_look_11 : decode cX11_look 11 = .ok (.getfield 93, 3) := by decide +kernel
theorem dX11_look_14 : decode cX11_look 14 = .ok (.iload_n 1, 1) := by decide +kernel
theorem dX11_look_15 : decode cX11_look 15 = .ok (.iaload, 1) := by decide +kernel
theorem dX11_look_16 : decode cX11_look 16 = .ok (.iload_n 2, 1) := by decide +kernel
theorem dX11_look_17 : decode cX11_look 17 = .ok (.if_icmp .eq 7, 3) := by decide +kernel
theorem dX11_look_20 : decode cX11_look 20 = .ok (.iconst 3, 1) := by decide +kernel
theorem dX11_look_21 : decode cX11_look 21 = .ok (.goto 24, 3) := by decide +kernel
theorem dX11_look_24 : decode cX11_look 24 = .ok (.iload_n 3, 1) := by decide +kernel
theorem dX11_look_25 : decode cX11_look 25 = .ok (.iconst 0, 1) := by decide +kernel
theorem dX11_look_26 : decode cX11_look 26 = .ok (.aload_n 0, 1) := by decide +kernel
theorem dX11_look_27 : decode cX11_look 27 = .ok (.getfield 96, 3) := by decide +kernel
theorem dX11_look_30 : decode cX11_look 30 = .ok (.iload_n 1, 1) := by decide +kernel
theorem dX11_look_31 : decode cX11_look 31 = .ok (.iaload, 1) := by decide +kernel
theorem dX11_look_32 : decode cX11_look 32 = .ok (.iconst 1, 1) := by decide +kernel
theorem dX11_look_33 : decode cX11_look 33 = .ok (.isub, 1) := by decide +kernel
theorem dX11_look_34 : decode cX11_look 34 = .ok (.invokestatic 122, 3) := by decide +kernel
theorem dX11_look_37 : decode cX11_look 37 = .ok (.ifCond .eq 7, 3) := by decide +kernel
theorem dX11_look_40 : decode cX11_look 40 = .ok (.iconst 0, 1) := by decide +kernel
theorem dX11_look_41 : decode cX11_look 41 = .ok (.goto 4, 3) := by decide +kernel
theorem dX11_look_44 : decode cX11_look 44 = .ok (.iconst 5, 1) := by decide +kernel
theorem dX11_look_45 : decode cX11_look 45 = .ok (.ireturn, 1) := by decide +kernel
theorem dX11_copies_0 : decode cX11_copies 0 = .ok (.iload_n 1, 1) := by decide +kernel
theorem dX11_copies_1 : decode cX11_copies 1 = .ok (.bipush (-3), 2) := by decide +kernel
theorem dX11_copies_3 : decode cX11_copies 3 = .ok (.if_icmp .eq 9, 3) := by decide +kernel
theorem dX11_copies_6 : decode cX11_copies 6 = .ok (.iload_n 2, 1) := by decide +kernel
theorem dX11_copies_7 : decode cX11_copies 7 = .ok (.bipush (-3), 2) := by decide +kernel
theorem dX11_copies_9 : decode cX11_copies 9 = .ok (.if_icmp .ne 5, 3) := by decide +kernel
theorem dX11_copies_12 : decode cX11_copies 12 = .ok (.iconst 2, 1) := by decide +kernel
theorem dX11_copies_13 : decode cX11_copies 13 = .ok (.ireturn, 1) := by decide +kernel
theorem dX11_copies_14 : decode cX11_copies 14 = .ok (.aload_n 0, 1) := by decide +kernel
theorem dX11_copies_15 : decode cX11_copies 15 = .ok (.getfield 93, 3) := by decide +kernel
theorem dX11_copies_18 : decode cX11_copies 18 = .ok (.iload_n 1, 1) := by decide +kernel
theorem dX11_copies_19 : decode cX11_copies 19 = .ok (.iaload, 1) := by decide +kernel
theorem dX11_copies_20 : decode cX11_copies 20 = .ok (.aload_n 0, 1) := by decide +kernel
theorem dX11_copies_21 : decode cX11_copies 21 = .ok (.getfield 93, 3) := by decide +kernel
theorem dX11_copies_24 : decode cX11_copies 24 = .ok (.iload_n 2, 1) := by decide +kernel
theorem dX11_copies_25 : decode cX11_copies 25 = .ok (.iaload, 1) := by decide +kernel
theorem dX11_copies_26 : decode cX11_copies 26 = .ok (.if_icmp .eq 5, 3) := by decide +kernel
theorem dX11_copies_29 : decode cX11_copies 29 = .ok (.iconst 4, 1) := by decide +kernel
theorem dX11_copies_30 : decode cX11_copies 30 = .ok (.ireturn, 1) := by decide +kernel
theorem dX11_copies_31 : decode cX11_copies 31 = .ok (.iload_n 3, 1) := by decide +kernel
theorem dX11_copies_32 : decode cX11_copies 32 = .ok (.ifCond .lt 23, 3) := by decide +kernel
theorem dX11_copies_35 : decode cX11_copies 35 = .ok (.iload_n 3, 1) := by decide +kernel
theorem dX11_copies_36 : decode cX11_copies 36 = .ok (.aload_n 0, 1) := by decide +kernel
theorem dX11_copies_37 : decode cX11_copies 37 = .ok (.getfield 96, 3) := by decide +kernel
theorem dX11_copies_40 : decode cX11_copies 40 = .ok (.iload_n 1, 1) := by decide +kernel
theorem dX11_copies_41 : decode cX11_copies 41 = .ok (.iaload, 1) := by decide +kernel
theorem dX11_copies_42 : decode cX11_copies 42 = .ok (.if_icmp .gt 13, 3) := by decide +kernel
theorem dX11_copies_45 : decode cX11_copies 45 = .ok (.iload_n 3, 1) := by decide +kernel
theorem dX11_copies_46 : decode cX11_copies 46 = .ok (.aload_n 0, 1) := by decide +kernel
theorem dX11_copies_47 : decode cX11_copies 47 = .ok (.getfield 96, 3) := by decide +kernel
theorem dX11_copies_50 : decode cX11_copies 50 = .ok (.iload_n 2, 1) := by decide +kernel
theorem dX11_copies_51 : decode cX11_copies 51 = .ok (.iaload, 1) := by decide +kernel
theorem dX11_copies_52 : decode cX11_copies 52 = .ok (.if_icmp .le 5, 3) := by decide +kernel
theorem dX11_copies_55 : decode cX11_copies 55 = .ok (.iconst 5, 1) := by decide +kernel
theorem dX11_copies_56 : decode cX11_copies 56 = .ok (.ireturn, 1) := by decide +kernel
theorem dX11_copies_57 : decode cX11_copies 57 = .ok (.iconst 0, 1) := by decide +kernel
theorem dX11_copies_58 : decode cX11_copies 58 = .ok (.istore 4, 2) := by decide +kernel
theorem dX11_copies_60 : decode cX11_copies 60 = .ok (.iload 4, 2) := by decide +kernel
theorem dX11_copies_62 : decode cX11_copies 62 = .ok (.iload_n 3, 1) := by decide +kernel
theorem dX11_copies_63 : decode cX11_copies 63 = .ok (.if_icmp .ge 37, 3) := by decide +kernel
theorem dX11_copies_66 : decode cX11_copies 66 = .ok (.aload_n 0, 1) := by decide +kernel
theorem dX11_copies_67 : decode cX11_copies 67 = .ok (.getfield 103, 3) := by decide +kernel
theorem dX11_copies_70 : decode cX11_copies 70 = .ok (.aload_n 0, 1) := by decide +kernel
theorem dX11_copies_71 : decode cX11_copies 71 = .ok (.getfield 99, 3) := by decide +kernel
theorem dX11_copies_74 : decode cX11_copies 74 = .ok (.iload_n 2, 1) := by decide +kernel
theorem dX11_copies_75 : decode cX11_copies 75 = .ok (.iaload, 1) := by decide +kernel
theorem dX11_copies_76 : decode cX11_copies 76 = .ok (.iload 4, 2) := by decide +kernel
theorem dX11_copies_78 : decode cX11_copies 78 = .ok (.iadd, 1) := by decide +kernel
theorem dX11_copies_79 : decode cX11_copies 79 = .ok (.aload_n 0, 1) := by decide +kernel
theorem dX11_copies_80 : decode cX11_copies 80 = .ok (.getfield 103, 3) := by decide +kernel
theorem dX11_copies_83 : decode cX11_copies 83 = .ok (.aload_n 0, 1) := by decide +kernel
theorem dX11_copies_84 : decode cX11_copies 84 = .ok (.getfield 99, 3) := by decide +kernel
theorem dX11_copies_87 : decode cX11_copies 87 = .ok (.iload_n 1, 1) := by decide +kernel
theorem dX11_copies_88 : decode cX11_copies 88 = .ok (.iaload, 1) := by decide +kernel
theorem dX11_copies_89 : decode cX11_copies 89 = .ok (.iload 4, 2) := by decide +kernel
theorem dX11_copies_91 : decode cX11_copies 91 = .ok (.iadd, 1) := by decide +kernel
theorem dX11_copies_92 : decode cX11_copies 92 = .ok (.laload, 1) := by decide +kernel
theorem dX11_copies_93 : decode cX11_copies 93 = .ok (.lastore, 1) := by decide +kernel
theorem dX11_copies_94 : decode cX11_copies 94 = .ok (.iinc 4 1, 3) := by decide +kernel
theorem dX11_copies_97 : decode cX11_copies 97 = .ok (.goto (-37), 3) := by decide +kernel
theorem dX11_copies_100 : decode cX11_copies 100 = .ok (.iconst 0, 1) := by decide +kernel
theorem dX11_copies_101 : decode cX11_copies 101 = .ok (.ireturn, 1) := by decide +kernel
theorem dX11_run_0 : decode cX11_run 0 = .ok (.iload_n 1, 1) := by decide +kernel
theorem dX11_run_1 : decode cX11_run 1 = .ok (.invokestatic 136, 3) := by decide +kernel
theorem dX11_run_4 : decode cX11_run 4 = .ok (.ifCond .eq 14, 3) := by decide +kernel
theorem dX11_run_7 : decode cX11_run 7 = .ok (.iload_n 3, 1) := by decide +kernel
theorem dX11_run_8 : decode cX11_run 8 = .ok (.iconst 0, 1) := by decide +kernel
theorem dX11_run_9 : decode cX11_run 9 = .ok (.sipush 500, 3) := by decide +kernel
theorem dX11_run_12 : decode cX11_run 12 = .ok (.invokestatic 122, 3) := by decide +kernel
theorem dX11_run_15 : decode cX11_run 15 = .ok (.ifCond .ne 5, 3) := by decide +kernel
theorem dX11_run_18 : decode cX11_run 18 = .ok (.iconst (-1), 1) := by decide +kernel
theorem dX11_run_19 : decode cX11_run 19 = .ok (.ireturn, 1) := by decide +kernel
theorem dX11_run_20 : decode cX11_run 20 = .ok (.iconst 0, 1) := by decide +kernel
theorem dX11_run_21 : decode cX11_run 21 = .ok (.istore 4, 2) := by decide +kernel
theorem dX11_run_23 : decode cX11_run 23 = .ok (.iload 4, 2) := by decide +kernel
theorem dX11_run_25 : decode cX11_run 25 = .ok (.bipush 9, 2) := by decide +kernel
theorem dX11_run_27 : decode cX11_run 27 = .ok (.if_icmp .ge 17, 3) := by decide +kernel
theorem dX11_run_30 : decode cX11_run 30 = .ok (.aload_n 0, 1) := by decide +kernel
theorem dX11_run_31 : decode cX11_run 31 = .ok (.getfield 107, 3) := by decide +kernel
theorem dX11_run_34 : decode cX11_run 34 = .ok (.iload 4, 2) := by decide +kernel
theorem dX11_run_36 : decode cX11_run 36 = .ok (.iconst 0, 1) := by decide +kernel
theorem dX11_run_37 : decode cX11_run 37 = .ok (.iastore, 1) := by decide +kernel
theorem dX11_run_38 : decode cX11_run 38 = .ok (.iinc 4 1, 3) := by decide +kernel
theorem dX11_run_41 : decode cX11_run 41 = .ok (.goto (-18), 3) := by decide +kernel
theorem dX11_run_44 : decode cX11_run 44 = .ok (.aload_n 0, 1) := by decide +kernel
theorem dX11_run_45 : decode cX11_run 45 = .ok (.iload_n 3, 1) := by decide +kernel
theorem dX11_run_46 : decode cX11_run 46 = .ok (.putfield 153, 3) := by decide +kernel
theorem dX11_run_49 : decode cX11_run 49 = .ok (.aload_n 0, 1) := by decide +kernel
theorem dX11_run_50 : decode cX11_run 50 = .ok (.iconst 0, 1) := by decide +kernel
theorem dX11_run_51 : decode cX11_run 51 = .ok (.putfield 119, 3) := by decide +kernel
theorem dX11_run_54 : decode cX11_run 54 = .ok (.aload_n 0, 1) := by decide +kernel
theorem dX11_run_55 : decode cX11_run 55 = .ok (.iconst 0, 1) := by decide +kernel
theorem dX11_run_56 : decode cX11_run 56 = .ok (.putfield 221, 3) := by decide +kernel
theorem dX11_run_59 : decode cX11_run 59 = .ok (.aload_n 0, 1) := by decide +kernel
theorem dX11_run_60 : decode cX11_run 60 = .ok (.iconst 0, 1) := by decide +kernel
theorem dX11_run_61 : decode cX11_run 61 = .ok (.putfield 224, 3) := by decide +kernel
theorem dX11_run_64 : decode cX11_run 64 = .ok (.aload_n 0, 1) := by decide +kernel
theorem dX11_run_65 : decode cX11_run 65 = .ok (.iconst 0, 1) := by decide +kernel
theorem dX11_run_66 : decode cX11_run 66 = .ok (.putfield 159, 3) := by decide +kernel
theorem dX11_run_69 : decode cX11_run 69 = .ok (.aload_n 0, 1) := by decide +kernel
theorem dX11_run_70 : decode cX11_run 70 = .ok (.iconst 0, 1) := by decide +kernel
theorem dX11_run_71 : decode cX11_run 71 = .ok (.putfield 149, 3) := by decide +kernel
theorem dX11_run_74 : decode cX11_run 74 = .ok (.aload_n 0, 1) := by decide +kernel
theorem dX11_run_75 : decode cX11_run 75 = .ok (.iconst 0, 1) := by decide +kernel
theorem dX11_run_76 : decode cX11_run 76 = .ok (.putfield 165, 3) := by decide +kernel
theorem dX11_run_79 : decode cX11_run 79 = .ok (.aload_n 0, 1) := by decide +kernel
theorem dX11_run_80 : decode cX11_run 80 = .ok (.iconst (-1), 1) := by decide +kernel
theorem dX11_run_81 : decode cX11_run 81 = .ok (.putfield 162, 3) := by decide +kernel
theorem dX11_run_84 : decode cX11_run 84 = .ok (.aload_n 0, 1) := by decide +kernel
theorem dX11_run_85 : decode cX11_run 85 = .ok (.iconst 0, 1) := by decide +kernel
theorem dX11_run_86 : decode cX11_run 86 = .ok (.putfield 172, 3) := by decide +kernel
theorem dX11_run_89 : decode cX11_run 89 = .ok (.aload_n 0, 1) := by decide +kernel
theorem dX11_run_90 : decode cX11_run 90 = .ok (.invokevirtual 178, 3) := by decide +kernel
theorem dX11_run_93 : decode cX11_run 93 = .ok (.ifCond .ne 10, 3) := by decide +kernel
theorem dX11_run_96 : decode cX11_run 96 = .ok (.aload_n 0, 1) := by decide +kernel
theorem dX11_run_97 : decode cX11_run 97 = .ok (.iconst 1, 1) := by decide +kernel
theorem dX11_run_98 : decode cX11_run 98 = .ok (.putfield 165, 3) := by decide +kernel
theorem dX11_run_101 : decode cX11_run 101 = .ok (.iconst 1, 1) := by decide +kernel
theorem dX11_run_102 : decode cX11_run 102 = .ok (.ireturn, 1) := by decide +kernel
theorem dX11_run_103 : decode cX11_run 103 = .ok (.aload_n 0, 1) := by decide +kernel
theorem dX11_run_104 : decode cX11_run 104 = .ok (.iload_n 1, 1) := by decide +kernel
theorem dX11_run_105 : decode cX11_run 105 = .ok (.iconst (-1), 1) := by decide +kernel
theorem dX11_run_106 : decode cX11_run 106 = .ok (.iconst 0, 1) := by decide +kernel
theorem dX11_run_107 : decode cX11_run 107 = .ok (.iconst 0, 1) := by decide +kernel
theorem dX11_run_108 : decode cX11_run 108 = .ok (.iconst 0, 1) := by decide +kernel
theorem dX11_run_109 : decode cX11_run 109 = .ok (.invokevirtual 194, 3) := by decide +kernel
theorem dX11_run_112 : decode cX11_run 112 = .ok (.pop, 1) := by decide +kernel
theorem dX11_run_113 : decode cX11_run 113 = .ok (.aload_n 0, 1) := by decide +kernel
theorem dX11_run_114 : decode cX11_run 114 = .ok (.getfield 65, 3) := by decide +kernel
theorem dX11_run_117 : decode cX11_run 117 = .ok (.iconst 0, 1) := by decide +kernel
theorem dX11_run_118 : decode cX11_run 118 = .ok (.iload_n 2, 1) := by decide +kernel
theorem dX11_run_119 : decode cX11_run 119 = .ok (.iastore, 1) := by decide +kernel
theorem dX11_run_120 : decode cX11_run 120 = .ok (.aload_n 0, 1) := by decide +kernel
theorem dX11_run_121 : decode cX11_run 121 = .ok (.getfield 159, 3) := by decide +kernel
theorem dX11_run_124 : decode cX11_run 124 = .ok (.ifCond .ne 60, 3) := by decide +kernel
theorem dX11_run_127 : decode cX11_run 127 = .ok (.aload_n 0, 1) := by decide +kernel
theorem dX11_run_128 : decode cX11_run 128 = .ok (.getfield 119, 3) := by decide +kernel
theorem dX11_run_131 : decode cX11_run 131 = .ok (.iconst 1, 1) := by decide +kernel
theorem dX11_run_132 : decode cX11_run 132 = .ok (.isub, 1) := by decide +kernel
theorem dX11_run_133 : decode cX11_run 133 = .ok (.istore 4, 2) := by decide +kernel
theorem dX11_run_135 : decode cX11_run 135 = .ok (.aload_n 0, 1) := by decide +kernel
theorem dX11_run_136 : decode cX11_run 136 = .ok (.getfield 149, 3) := by decide +kernel
theorem dX11_run_139 : decode cX11_run 139 = .ok (.ifCond .eq 19, 3) := by decide +kernel
theorem dX11_run_142 : decode cX11_run 142 = .ok (.iload 4, 2) := by decide +kernel
theorem dX11_run_144 : decode cX11_run 144 = .ok (.aload_n 0, 1) := by decide +kernel
theorem dX11_run_145 : decode cX11_run 145 = .ok (.getfield 162, 3) := by decide +kernel
theorem dX11_run_148 : decode cX11_run 148 = .ok (.if_icmp .ne 10, 3) := by decide +kernel
theorem dX11_run_151 : decode cX11_run 151 = .ok (.aload_n 0, 1) := by decide +kernel
theorem dX11_run_152 : decode cX11_run 152 = .ok (.invokevirtual 242, 3) := by decide +kernel
theorem dX11_run_155 : decode cX11_run 155 = .ok (.goto 26, 3) := by decide +kernel
theorem dX11_run_158 : decode cX11_run 158 = .ok (.aload_n 0, 1) := by decide +kernel
theorem dX11_run_159 : decode cX11_run 159 = .ok (.getfield 75, 3) := by decide +kernel
theorem dX11_run_162 : decode cX11_run 162 = .ok (.iload 4, 2) := by decide +kernel
theorem dX11_run_164 : decode cX11_run 164 = .ok (.baload, 1) := by decide +kernel
theorem dX11_run_165 : decode cX11_run 165 = .ok (.ifCond .eq 12, 3) := by decide +kernel
theorem dX11_run_168 : decode cX11_run 168 = .ok (.aload_n 0, 1) := by decide +kernel
theorem dX11_run_169 : decode cX11_run 169 = .ok (.iload 4, 2) := by decide +kernel
theorem dX11_run_171 : decode cX11_run 171 = .ok (.invokevirtual 245, 3) := by decide +kernel
theorem dX11_run_174 : decode cX11_run 174 = .ok (.goto 7, 3) := by decide +kernel
theorem dX11_run_177 : decode cX11_run 177 = .ok (.aload_n 0, 1) := by decide +kernel
theorem dX11_run_178 : decode cX11_run 178 = .ok (.invokevirtual 249, 3) := by decide +kernel
theorem dX11_run_181 : decode cX11_run 181 = .ok (.goto (-61), 3) := by decide +kernel
theorem dX11_run_184 : decode cX11_run 184 = .ok (.aload_n 0, 1) := by decide +kernel
theorem dX11_run_185 : decode cX11_run 185 = .ok (.getfield 149, 3) := by decide +kernel
theorem dX11_run_188 : decode cX11_run 188 = .ok (.ifCond .eq 22, 3) := by decide +kernel
theorem dX11_run_191 : decode cX11_run 191 = .ok (.aload_n 0, 1) := by decide +kernel
theorem dX11_run_192 : decode cX11_run 192 = .ok (.iconst 1, 1) := by decide +kernel
theorem dX11_run_193 : decode cX11_run 193 = .ok (.putfield 165, 3) := by decide +kernel
theorem dX11_run_196 : decode cX11_run 196 = .ok (.aload_n 0, 1) := by decide +kernel
theorem dX11_run_197 : decode cX11_run 197 = .ok (.getfield 107, 3) := by decide +kernel
theorem dX11_run_200 : decode cX11_run 200 = .ok (.iconst 0, 1) := by decide +kernel
theorem dX11_run_201 : decode cX11_run 201 = .ok (.iconst 0, 1) := by decide +kernel
theorem dX11_run_202 : decode cX11_run 202 = .ok (.iastore, 1) := by decide +kernel
theorem dX11_run_203 : decode cX11_run 203 = .ok (.aload_n 0, 1) := by decide +kernel
theorem dX11_run_204 : decode cX11_run 204 = .ok (.getfield 107, 3) := by decide +kernel
theorem dX11_run_207 : decode cX11_run 207 = .ok (.iconst 1, 1) := by decide +kernel
theorem dX11_run_208 : decode cX11_run 208 = .ok (.iconst 0, 1) := by decide +kernel
theorem dX11_run_209 : decode cX11_run 209 = .ok (.iastore, 1) := by decide +kernel
theorem dX11_run_210 : decode cX11_run 210 = .ok (.aload_n 0, 1) := by decide +kernel
theorem dX11_run_211 : decode cX11_run 211 = .ok (.getfield 165, 3) := by decide +kernel
theorem dX11_run_214 : decode cX11_run 214 = .ok (.ireturn, 1) := by decide +kernel
theorem dX11_latest_0 : decode cX11_latest 0 = .ok (.iload_n 1, 1) := by decide +kernel
theorem dX11_latest_1 : decode cX11_latest 1 = .ok (.iconst 0, 1) := by decide +kernel
theorem dX11_latest_2 : decode cX11_latest 2 = .ok (.bipush 8, 2) := by decide +kernel
theorem dX11_latest_4 : decode cX11_latest 4 = .ok (.invokestatic 122, 3) := by decide +kernel
theorem dX11_latest_7 : decode cX11_latest 7 = .ok (.ifCond .eq 12, 3) := by decide +kernel
theorem dX11_latest_10 : decode cX11_latest 10 = .ok (.aload_n 0, 1) := by decide +kernel
theorem dX11_latest_11 : decode cX11_latest 11 = .ok (.getfield 107, 3) := by decide +kernel
theorem dX11_latest_14 : decode cX11_latest 14 = .ok (.iload_n 1, 1) := by decide +kernel
theorem dX11_latest_15 : decode cX11_latest 15 = .ok (.iaload, 1) := by decide +kernel
theorem dX11_latest_16 : decode cX11_latest 16 = .ok (.goto 4, 3) := by decide +kernel
theorem dX11_latest_19 : decode cX11_latest 19 = .ok (.iconst (-1), 1) := by decide +kernel
theorem dX11_latest_20 : decode cX11_latest 20 = .ok (.ireturn, 1) := by decide +kernel
theorem dX11_cleaned_0 : decode cX11_cleaned 0 = .ok (.iload_n 1, 1) := by decide +kernel
theorem dX11_cleaned_1 : decode cX11_cleaned 1 = .ok (.ifCond .lt 12, 3) := by decide +kernel
theorem dX11_cleaned_4 : decode cX11_cleaned 4 = .ok (.iload_n 2, 1) := by decide +kernel
theorem dX11_cleaned_5 : decode cX11_cleaned 5 = .ok (.iconst 0, 1) := by decide +kernel
theorem dX11_cleaned_6 : decode cX11_cleaned 6 = .ok (.iconst 2, 1) := by decide +kernel
theorem dX11_cleaned_7 : decode cX11_cleaned 7 = .ok (.invokestatic 122, 3) := by decide +kernel
theorem dX11_cleaned_10 : decode cX11_cleaned 10 = .ok (.ifCond .ne 5, 3) := by decide +kernel
theorem dX11_cleaned_13 : decode cX11_cleaned 13 = .ok (.iconst (-1), 1) := by decide +kernel
theorem dX11_cleaned_14 : decode cX11_cleaned 14 = .ok (.ireturn, 1) := by decide +kernel
theorem dX11_cleaned_15 : decode cX11_cleaned 15 = .ok (.iload_n 1, 1) := by decide +kernel
theorem dX11_cleaned_16 : decode cX11_cleaned 16 = .ok (.aload_n 0, 1) := by decide +kernel
theorem dX11_cleaned_17 : decode cX11_cleaned 17 = .ok (.getfield 107, 3) := by decide +kernel
theorem dX11_cleaned_20 : decode cX11_cleaned 20 = .ok (.iconst 5, 1) := by decide +kernel
theorem dX11_cleaned_21 : decode cX11_cleaned 21 = .ok (.iaload, 1) := by decide +kernel
theorem dX11_cleaned_22 : decode cX11_cleaned 22 = .ok (.if_icmp .ge 9, 3) := by decide +kernel
theorem dX11_cleaned_25 : decode cX11_cleaned 25 = .ok (.iload_n 1, 1) := by decide +kernel
theorem dX11_cleaned_26 : decode cX11_cleaned 26 = .ok (.bipush 100, 2) := by decide +kernel
theorem dX11_cleaned_28 : decode cX11_cleaned 28 = .ok (.if_icmp .lt 6, 3) := by decide +kernel
theorem dX11_cleaned_31 : decode cX11_cleaned 31 = .ok (.bipush (-3), 2) := by decide +kernel
theorem dX11_cleaned_33 : decode cX11_cleaned 33 = .ok (.ireturn, 1) := by decide +kernel
theorem dX11_cleaned_34 : decode cX11_cleaned 34 = .ok (.iload_n 2, 1) := by decide +kernel
theorem dX11_cleaned_35 : decode cX11_cleaned 35 = .ok (.ifCond .ne 12, 3) := by decide +kernel
theorem dX11_cleaned_38 : decode cX11_cleaned 38 = .ok (.aload_n 0, 1) := by decide +kernel
theorem dX11_cleaned_39 : decode cX11_cleaned 39 = .ok (.getfield 110, 3) := by decide +kernel
theorem dX11_cleaned_42 : decode cX11_cleaned 42 = .ok (.iload_n 1, 1) := by decide +kernel
theorem dX11_cleaned_43 : decode cX11_cleaned 43 = .ok (.iaload, 1) := by decide +kernel
theorem dX11_cleaned_44 : decode cX11_cleaned 44 = .ok (.goto 23, 3) := by decide +kernel
theorem dX11_cleaned_47 : decode cX11_cleaned 47 = .ok (.iload_n 2, 1) := by decide +kernel
theorem dX11_cleaned_48 : decode cX11_cleaned 48 = .ok (.iconst 1, 1) := by decide +kernel
theorem dX11_cleaned_49 : decode cX11_cleaned 49 = .ok (.if_icmp .ne 12, 3) := by decide +kernel
theorem dX11_cleaned_52 : decode cX11_cleaned 52 = .ok (.aload_n 0, 1) := by decide +kernel
theorem dX11_cleaned_53 : decode cX11_cleaned 53 = .ok (.getfield 113, 3) := by decide +kernel
theorem dX11_cleaned_56 : decode cX11_cleaned 56 = .ok (.iload_n 1, 1) := by decide +kernel
theorem dX11_cleaned_57 : decode cX11_cleaned 57 = .ok (.iaload, 1) := by decide +kernel
theorem dX11_cleaned_58 : decode cX11_cleaned 58 = .ok (.goto 9, 3) := by decide +kernel
theorem dX11_cleaned_61 : decode cX11_cleaned 61 = .ok (.aload_n 0, 1) := by decide +kernel
theorem dX11_cleaned_62 : decode cX11_cleaned 62 = .ok (.getfield 116, 3) := by decide +kernel
theorem dX11_cleaned_65 : decode cX11_cleaned 65 = .ok (.iload_n 1, 1) := by decide +kernel
theorem dX11_cleaned_66 : decode cX11_cleaned 66 = .ok (.iaload, 1) := by decide +kernel
theorem dX11_cleaned_67 : decode cX11_cleaned 67 = .ok (.ireturn, 1) := by decide +kernel
theorem dX11_told_0 : decode cX11_told 0 = .ok (.iload_n 1, 1) := by decide +kernel
theorem dX11_told_1 : decode cX11_told 1 = .ok (.invokestatic 136, 3) := by decide +kernel
theorem dX11_told_4 : decode cX11_told 4 = .ok (.ifCond .eq 12, 3) := by decide +kernel
theorem dX11_told_7 : decode cX11_told 7 = .ok (.iload_n 2, 1) := by decide +kernel
theorem dX11_told_8 : decode cX11_told 8 = .ok (.iconst 0, 1) := by decide +kernel
theorem dX11_told_9 : decode cX11_told 9 = .ok (.iconst 2, 1) := by decide +kernel
theorem dX11_told_10 : decode cX11_told 10 = .ok (.invokestatic 122, 3) := by decide +kernel
theorem dX11_told_13 : decode cX11_told 13 = .ok (.ifCond .ne 7, 3) := by decide +kernel
theorem dX11_told_16 : decode cX11_told 16 = .ok (.iconst (-1), 1) := by decide +kernel
theorem dX11_told_17 : decode cX11_told 17 = .ok (.goto 36, 3) := by decide +kernel
theorem dX11_told_20 : decode cX11_told 20 = .ok (.iload_n 2, 1) := by decide +kernel
theorem dX11_told_21 : decode cX11_told 21 = .ok (.ifCond .ne 12, 3) := by decide +kernel
theorem dX11_told_24 : decode cX11_told 24 = .ok (.aload_n 0, 1) := by decide +kernel
theorem dX11_told_25 : decode cX11_told 25 = .ok (.getfield 7, 3) := by decide +kernel
theorem dX11_told_28 : decode cX11_told 28 = .ok (.iload_n 1, 1) := by decide +kernel
theorem dX11_told_29 : decode cX11_told 29 = .ok (.iaload, 1) := by decide +kernel
theorem dX11_told_30 : decode cX11_told 30 = .ok (.goto 23, 3) := by decide +kernel
theorem dX11_told_33 : decode cX11_told 33 = .ok (.iload_n 2, 1) := by decide +kernel
theorem dX11_told_34 : decode cX11_told 34 = .ok (.iconst 1, 1) := by decide +kernel
theorem dX11_told_35 : decode cX11_told 35 = .ok (.if_icmp .ne 12, 3) := by decide +kernel
theorem dX11_told_38 : decode cX11_told 38 = .ok (.aload_n 0, 1) := by decide +kernel
theorem dX11_told_39 : decode cX11_told 39 = .ok (.getfield 28, 3) := by decide +kernel
theorem dX11_told_42 : decode cX11_told 42 = .ok (.iload_n 1, 1) := by decide +kernel
theorem dX11_told_43 : decode cX11_told 43 = .ok (.iaload, 1) := by decide +kernel
theorem dX11_told_44 : decode cX11_told 44 = .ok (.goto 9, 3) := by decide +kernel
theorem dX11_told_47 : decode cX11_told 47 = .ok (.aload_n 0, 1) := by decide +kernel
theorem dX11_told_48 : decode cX11_told 48 = .ok (.getfield 43, 3) := by decide +kernel
theorem dX11_told_51 : decode cX11_told 51 = .ok (.iload_n 1, 1) := by decide +kernel
theorem dX11_told_52 : decode cX11_told 52 = .ok (.iaload, 1) := by decide +kernel
theorem dX11_told_53 : decode cX11_told 53 = .ok (.ireturn, 1) := by decide +kernel
theorem dJ9_max_7cf53_0 : decode cJ9_max_7cf53 0 = .ok (.iload_n 0, 1) := by decide +kernel
theorem dJ9_max_7cf53_1 : decode cJ9_max_7cf53 1 = .ok (.iload_n 1, 1) := by decide +kernel
theorem dJ9_max_7cf53_2 : decode cJ9_max_7cf53 2 = .ok (.if_icmp .lt 7, 3) := by decide +kernel
theorem dJ9_max_7cf53_5 : decode cJ9_max_7cf53 5 = .ok (.iload_n 0, 1) := by decide +kernel
theorem dJ9_max_7cf53_6 : decode cJ9_max_7cf53 6 = .ok (.goto 4, 3) := by decide +kernel
theorem dJ9_max_7cf53_9 : decode cJ9_max_7cf53 9 = .ok (.iload_n 1, 1) := by decide +kernel
theorem dJ9_max_7cf53_10 : decode cJ9_max_7cf53 10 = .ok (.ireturn, 1) := by decide +kernel
theorem dJ9_min_7cf53_0 : decode cJ9_min_7cf53 0 = .ok (.iload_n 0, 1) := by decide +kernel
theorem dJ9_min_7cf53_1 : decode cJ9_min_7cf53 1 = .ok (.iload_n 1, 1) := by decide +kernel
theorem dJ9_min_7cf53_2 : decode cJ9_min_7cf53 2 = .ok (.if_icmp .gt 7, 3) := by decide +kernel
theorem dJ9_min_7cf53_5 : decode cJ9_min_7cf53 5 = .ok (.iload_n 0, 1) := by decide +kernel
theorem dJ9_min_7cf53_6 : decode cJ9_min_7cf53 6 = .ok (.goto 4, 3) := by decide +kernel
theorem dJ9_min_7cf53_9 : decode cJ9_min_7cf53 9 = .ok (.iload_n 1, 1) := by decide +kernel
theorem dJ9_min_7cf53_10 : decode cJ9_min_7cf53 10 = .ok (.ireturn, 1) := by decide +kernel
theorem dJxe7f93_init_da8c8_0 : decode cJxe7f93_init_da8c8 0 = .ok (.aload_n 0, 1) := by decide +kernel
theorem dJxe7f93_init_da8c8_1 : decode cJxe7f93_init_da8c8 1 = .ok (.invokespecial 1, 3) := by decide +kernel
theorem dJxe7f93_init_da8c8_4 : decode cJxe7f93_init_da8c8 4 = .ok (.return_, 1) := by decide +kernel
theorem dJxa1e45_init_da8c8_0 : decode cJxa1e45_init_da8c8 0 = .ok (.aload_n 0, 1) := by decide +kernel
theorem dJxa1e45_init_da8c8_1 : decode cJxa1e45_init_da8c8 1 = .ok (.invokespecial 1, 3) := by decide +kernel
theorem dJxa1e45_init_da8c8_4 : decode cJxa1e45_init_da8c8 4 = .ok (.return_, 1) := by decide +kernel
theorem dJxc12de_init_da8c8_0 : decode cJxc12de_init_da8c8 0 = .ok (.aload_n 0, 1) := by decide +kernel
theorem dJxc12de_init_da8c8_1 : decode cJxc12de_init_da8c8 1 = .ok (.invokespecial 1, 3) := by decide +kernel
theorem dJxc12de_init_da8c8_4 : decode cJxc12de_init_da8c8 4 = .ok (.aload_n 0, 1) := by decide +kernel
theorem dJxc12de_init_da8c8_5 : decode cJxc12de_init_da8c8 5 = .ok (.iconst 0, 1) := by decide +kernel
theorem dJxc12de_init_da8c8_6 : decode cJxc12de_init_da8c8 6 = .ok (.putfield 7, 3) := by decide +kernel
theorem dJxc12de_init_da8c8_9 : decode cJxc12de_init_da8c8 9 = .ok (.return_, 1) := by decide +kernel
theorem dJx4a65c_init_da8c8_0 : decode cJx4a65c_init_da8c8 0 = .ok (.aload_n 0, 1) := by decide +kernel
theorem dJx4a65c_init_da8c8_1 : decode cJx4a65c_init_da8c8 1 = .ok (.invokespecial 1, 3) := by decide +kernel
theorem dJx4a65c_init_da8c8_4 : decode cJx4a65c_init_da8c8 4 = .ok (.aload_n 0, 1) := by decide +kernel
theorem dJx4a65c_init_da8c8_5 : decode cJx4a65c_init_da8c8 5 = .ok (.getstatic 39, 3) := by decide +kernel
theorem dJx4a65c_init_da8c8_8 : decode cJx4a65c_init_da8c8 8 = .ok (.putfield 9, 3) := by decide +kernel
theorem dJx4a65c_init_da8c8_11 : decode cJx4a65c_init_da8c8 11 = .ok (.return_, 1) := by decide +kernel
theorem dJx4a65c_grow_92f84_0 : decode cJx4a65c_grow_92f84 0 = .ok (.aload_n 0, 1) := by decide +kernel
theorem dJx4a65c_grow_92f84_1 : decode cJx4a65c_grow_92f84 1 = .ok (.getfield 9, 3) := by decide +kernel
theorem dJx4a65c_grow_92f84_4 : decode cJx4a65c_grow_92f84 4 = .ok (.arraylength, 1) := by decide +kernel
theorem dJx4a65c_grow_92f84_5 : decode cJx4a65c_grow_92f84 5 = .ok (.istore_n 2, 1) := by decide +kernel
theorem dJx4a65c_grow_92f84_6 : decode cJx4a65c_grow_92f84 6 = .ok (.iload_n 2, 1) := by decide +kernel
theorem dJx4a65c_grow_92f84_7 : decode cJx4a65c_grow_92f84 7 = .ok (.ifCond .gt 13, 3) := by decide +kernel
theorem dJx4a65c_grow_92f84_10 : decode cJx4a65c_grow_92f84 10 = .ok (.aload_n 0, 1) := by decide +kernel
theorem dJx4a65c_grow_92f84_11 : decode cJx4a65c_grow_92f84 11 = .ok (.getfield 9, 3) := by decide +kernel
theorem dJx4a65c_grow_92f84_14 : decode cJx4a65c_grow_92f84 14 = .ok (.getstatic 39, 3) := by decide +kernel
theorem dJx4a65c_grow_92f84_17 : decode cJx4a65c_grow_92f84 17 = .ok (.if_acmp .eq 28, 3) := by decide +kernel
theorem dJx4a65c_grow_92f84_20 : decode cJx4a65c_grow_92f84 20 = .ok (.iload_n 2, 1) := by decide +kernel
theorem dJx4a65c_grow_92f84_21 : decode cJx4a65c_grow_92f84 21 = .ok (.iload_n 1, 1) := by decide +kernel
theorem dJx4a65c_grow_92f84_22 : decode cJx4a65c_grow_92f84 22 = .ok (.iload_n 2, 1) := by decide +kernel
theorem dJx4a65c_grow_92f84_23 : decode cJx4a65c_grow_92f84 23 = .ok (.isub, 1) := by decide +kernel
theorem dJx4a65c_grow_92f84_24 : decode cJx4a65c_grow_92f84 24 = .ok (.iload_n 2, 1) := by decide +kernel
theorem dJx4a65c_grow_92f84_25 : decode cJx4a65c_grow_92f84 25 = .ok (.iconst 1, 1) := by decide +kernel
theorem dJx4a65c_grow_92f84_26 : decode cJx4a65c_grow_92f84 26 = .ok (.ishr, 1) := by decide +kernel
theorem dJx4a65c_grow_92f84_27 : decode cJx4a65c_grow_92f84 27 = .ok (.invokestatic 73, 3) := by decide +kernel
theorem dJx4a65c_grow_92f84_30 : decode cJx4a65c_grow_92f84 30 = .ok (.istore_n 3, 1) := by decide +kernel
theorem dJx4a65c_grow_92f84_31 : decode cJx4a65c_grow_92f84 31 = .ok (.aload_n 0, 1) := by decide +kernel
theorem dJx4a65c_grow_92f84_32 : decode cJx4a65c_grow_92f84 32 = .ok (.aload_n 0, 1) := by decide +kernel
theorem dJx4a65c_grow_92f84_33 : decode cJx4a65c_grow_92f84 33 = .ok (.getfield 9, 3) := by decide +kernel
theorem dJx4a65c_grow_92f84_36 : decode cJx4a65c_grow_92f84 36 = .ok (.iload_n 3, 1) := by decide +kernel
theorem dJx4a65c_grow_92f84_37 : decode cJx4a65c_grow_92f84 37 = .ok (.invokestatic 66, 3) := by decide +kernel
theorem dJx4a65c_grow_92f84_40 : decode cJx4a65c_grow_92f84 40 = .ok (.dup_x1, 1) := by decide +kernel
theorem dJx4a65c_grow_92f84_41 : decode cJx4a65c_grow_92f84 41 = .ok (.putfield 9, 3) := by decide +kernel
theorem dJx4a65c_grow_92f84_44 : decode cJx4a65c_grow_92f84 44 = .ok (.areturn, 1) := by decide +kernel
theorem dJx4a65c_grow_92f84_45 : decode cJx4a65c_grow_92f84 45 = .ok (.aload_n 0, 1) := by decide +kernel
theorem dJx4a65c_grow_92f84_46 : decode cJx4a65c_grow_92f84 46 = .ok (.bipush 10, 2) := by decide +kernel
theorem dJx4a65c_grow_92f84_48 : decode cJx4a65c_grow_92f84 48 = .ok (.iload_n 1, 1) := by decide +kernel
theorem dJx4a65c_grow_92f84_49 : decode cJx4a65c_grow_92f84 49 = .ok (.invokestatic 79, 3) := by decide +kernel
theorem dJx4a65c_grow_92f84_52 : decode cJx4a65c_grow_92f84 52 = .ok (.anewarray 7, 3) := by decide +kernel
theorem dJx4a65c_grow_92f84_55 : decode cJx4a65c_grow_92f84 55 = .ok (.dup_x1, 1) := by decide +kernel
theorem dJx4a65c_grow_92f84_56 : decode cJx4a65c_grow_92f84 56 = .ok (.putfield 9, 3) := by decide +kernel
theorem dJx4a65c_grow_92f84_59 : decode cJx4a65c_grow_92f84 59 = .ok (.areturn, 1) := by decide +kernel
theorem dJx4a65c_grow_d5877_0 : decode cJx4a65c_grow_d5877 0 = .ok (.aload_n 0, 1) := by decide +kernel
theorem dJx4a65c_grow_d5877_1 : decode cJx4a65c_grow_d5877 1 = .ok (.aload_n 0, 1) := by decide +kernel
theorem dJx4a65c_grow_d5877_2 : decode cJx4a65c_grow_d5877 2 = .ok (.getfield 48, 3) := by decide +kernel
theorem dJx4a65c_grow_d5877_5 : decode cJx4a65c_grow_d5877 5 = .ok (.iconst 1, 1) := by decide +kernel
theorem dJx4a65c_grow_d5877_6 : decode cJx4a65c_grow_d5877 6 = .ok (.iadd, 1) := by decide +kernel
theorem dJx4a65c_grow_d5877_7 : decode cJx4a65c_grow_d5877 7 = .ok (.invokevirtual 69, 3) := by decide +kernel
theorem dJx4a65c_grow_d5877_10 : decode cJx4a65c_grow_d5877 10 = .ok (.areturn, 1) := by decide +kernel
theorem dJx4a65c_size_8abf5_0 : decode cJx4a65c_size_8abf5 0 = .ok (.aload_n 0, 1) := by decide +kernel
theorem dJx4a65c_size_8abf5_1 : decode cJx4a65c_size_8abf5 1 = .ok (.getfield 48, 3) := by decide +kernel
theorem dJx4a65c_size_8abf5_4 : decode cJx4a65c_size_8abf5 4 = .ok (.ireturn, 1) := by decide +kernel
theorem dJx4a65c_elementData_915e3_0 : decode cJx4a65c_elementData_915e3 0 = .ok (.aload_n 0, 1) := by decide +kernel
theorem dJx4a65c_elementData_915e3_1 : decode cJx4a65c_elementData_915e3 1 = .ok (.getfield 9, 3) := by decide +kernel
theorem dJx4a65c_elementData_915e3_4 : decode cJx4a65c_elementData_915e3 4 = .ok (.iload_n 1, 1) := by decide +kernel
theorem dJx4a65c_elementData_915e3_5 : decode cJx4a65c_elementData_915e3 5 = .ok (.aaload, 1) := by decide +kernel
theorem dJx4a65c_elementData_915e3_6 : decode cJx4a65c_elementData_915e3 6 = .ok (.areturn, 1) := by decide +kernel
theorem dJx4a65c_get_915e3_0 : decode cJx4a65c_get_915e3 0 = .ok (.iload_n 1, 1) := by decide +kernel
theorem dJx4a65c_get_915e3_1 : decode cJx4a65c_get_915e3 1 = .ok (.aload_n 0, 1) := by decide +kernel
theorem dJx4a65c_get_915e3_2 : decode cJx4a65c_get_915e3 2 = .ok (.getfield 48, 3) := by decide +kernel
theorem dJx4a65c_get_915e3_5 : decode cJx4a65c_get_915e3 5 = .ok (.invokestatic 118, 3) := by decide +kernel
theorem dJx4a65c_get_915e3_8 : decode cJx4a65c_get_915e3 8 = .ok (.pop, 1) := by decide +kernel
theorem dJx4a65c_get_915e3_9 : decode cJx4a65c_get_915e3 9 = .ok (.aload_n 0, 1) := by decide +kernel
theorem dJx4a65c_get_915e3_10 : decode cJx4a65c_get_915e3 10 = .ok (.iload_n 1, 1) := by decide +kernel
theorem dJx4a65c_get_915e3_11 : decode cJx4a65c_get_915e3 11 = .ok (.invokevirtual 123, 3) := by decide +kernel
theorem dJx4a65c_get_915e3_14 : decode cJx4a65c_get_915e3 14 = .ok (.areturn, 1) := by decide +kernel
theorem dJx4a65c_add_72be8_0 : decode cJx4a65c_add_72be8 0 = .ok (.iload_n 3, 1) := by decide +kernel
theorem dJx4a65c_add_72be8_1 : decode cJx4a65c_add_72be8 1 = .ok (.aload_n 2, 1) := by decide +kernel
theorem dJx4a65c_add_72be8_2 : decode cJx4a65c_add_72be8 2 = .ok (.arraylength, 1) := by decide +kernel
theorem dJx4a65c_add_72be8_3 : decode cJx4a65c_add_72be8 3 = .ok (.if_icmp .ne 8, 3) := by decide +kernel
theorem dJx4a65c_add_72be8_6 : decode cJx4a65c_add_72be8 6 = .ok (.aload_n 0, 1) := by decide +kernel
theorem dJx4a65c_add_72be8_7 : decode cJx4a65c_add_72be8 7 = .ok (.invokevirtual 129, 3) := by decide +kernel
theorem dJx4a65c_add_72be8_10 : decode cJx4a65c_add_72be8 10 = .ok (.astore_n 2, 1) := by decide +kernel
theorem dJx4a65c_add_72be8_11 : decode cJx4a65c_add_72be8 11 = .ok (.aload_n 2, 1) := by decide +kernel
theorem dJx4a65c_add_72be8_12 : decode cJx4a65c_add_72be8 12 = .ok (.iload_n 3, 1) := by decide +kernel
theorem dJx4a65c_add_72be8_13 : decode cJx4a65c_add_72be8 13 = .ok (.aload_n 1, 1) := by decide +kernel
theorem dJx4a65c_add_72be8_14 : decode cJx4a65c_add_72be8 14 = .ok (.aastore, 1) := by decide +kernel
theorem dJx4a65c_add_72be8_15 : decode cJx4a65c_add_72be8 15 = .ok (.aload_n 0, 1) := by decide +kernel
theorem dJx4a65c_add_72be8_16 : decode cJx4a65c_add_72be8 16 = .ok (.iload_n 3, 1) := by decide +kernel
theorem dJx4a65c_add_72be8_17 : decode cJx4a65c_add_72be8 17 = .ok (.iconst 1, 1) := by decide +kernel
theorem dJx4a65c_add_72be8_18 : decode cJx4a65c_add_72be8 18 = .ok (.iadd, 1) := by decide +kernel
theorem dJx4a65c_add_72be8_19 : decode cJx4a65c_add_72be8 19 = .ok (.putfield 48, 3) := by decide +kernel
theorem dJx4a65c_add_72be8_22 : decode cJx4a65c_add_72be8 22 = .ok (.return_, 1) := by decide +kernel
theorem dJx4a65c_add_9ea2d_0 : decode cJx4a65c_add_9ea2d 0 = .ok (.aload_n 0, 1) := by decide +kernel
theorem dJx4a65c_add_9ea2d_1 : decode cJx4a65c_add_9ea2d 1 = .ok (.dup, 1) := by decide +kernel
theorem dJx4a65c_add_9ea2d_2 : decode cJx4a65c_add_9ea2d 2 = .ok (.getfield 63, 3) := by decide +kernel
theorem dJx4a65c_add_9ea2d_5 : decode cJx4a65c_add_9ea2d 5 = .ok (.iconst 1, 1) := by decide +kernel
theorem dJx4a65c_add_9ea2d_6 : decode cJx4a65c_add_9ea2d 6 = .ok (.iadd, 1) := by decide +kernel
theorem dJx4a65c_add_9ea2d_7 : decode cJx4a65c_add_9ea2d 7 = .ok (.putfield 63, 3) := by decide +kernel
theorem dJx4a65c_add_9ea2d_10 : decode cJx4a65c_add_9ea2d 10 = .ok (.aload_n 0, 1) := by decide +kernel
theorem dJx4a65c_add_9ea2d_11 : decode cJx4a65c_add_9ea2d 11 = .ok (.aload_n 1, 1) := by decide +kernel
theorem dJx4a65c_add_9ea2d_12 : decode cJx4a65c_add_9ea2d 12 = .ok (.aload_n 0, 1) := by decide +kernel
theorem dJx4a65c_add_9ea2d_13 : decode cJx4a65c_add_9ea2d 13 = .ok (.getfield 9, 3) := by decide +kernel
theorem dJx4a65c_add_9ea2d_16 : decode cJx4a65c_add_9ea2d 16 = .ok (.aload_n 0, 1) := by decide +kernel
theorem dJx4a65c_add_9ea2d_17 : decode cJx4a65c_add_9ea2d 17 = .ok (.getfield 48, 3) := by decide +kernel
theorem dJx4a65c_add_9ea2d_20 : decode cJx4a65c_add_9ea2d 20 = .ok (.invokevirtual 131, 3) := by decide +kernel
theorem dJx4a65c_add_9ea2d_23 : decode cJx4a65c_add_9ea2d 23 = .ok (.iconst 1, 1) := by decide +kernel
theorem dJx4a65c_add_9ea2d_24 : decode cJx4a65c_add_9ea2d 24 = .ok (.ireturn, 1) := by decide +kernel
theorem dJx4a65c_clear_da8c8_0 : decode cJx4a65c_clear_da8c8 0 = .ok (.aload_n 0, 1) := by decide +kernel
theorem dJx4a65c_clear_da8c8_1 : decode cJx4a65c_clear_da8c8 1 = .ok (.dup, 1) := by decide +kernel
theorem dJx4a65c_clear_da8c8_2 : decode cJx4a65c_clear_da8c8 2 = .ok (.getfield 63, 3) := by decide +kernel
theorem dJx4a65c_clear_da8c8_5 : decode cJx4a65c_clear_da8c8 5 = .ok (.iconst 1, 1) := by decide +kernel
theorem dJx4a65c_clear_da8c8_6 : decode cJx4a65c_clear_da8c8 6 = .ok (.iadd, 1) := by decide +kernel
theorem dJx4a65c_clear_da8c8_7 : decode cJx4a65c_clear_da8c8 7 = .ok (.putfield 63, 3) := by decide +kernel
theorem dJx4a65c_clear_da8c8_10 : decode cJx4a65c_clear_da8c8 10 = .ok (.aload_n 0, 1) := by decide +kernel
theorem dJx4a65c_clear_da8c8_11 : decode cJx4a65c_clear_da8c8 11 = .ok (.getfield 9, 3) := by decide +kernel
theorem dJx4a65c_clear_da8c8_14 : decode cJx4a65c_clear_da8c8 14 = .ok (.astore_n 1, 1) := by decide +kernel
theorem dJx4a65c_clear_da8c8_15 : decode cJx4a65c_clear_da8c8 15 = .ok (.aload_n 0, 1) := by decide +kernel
theorem dJx4a65c_clear_da8c8_16 : decode cJx4a65c_clear_da8c8 16 = .ok (.getfield 48, 3) := by decide +kernel
theorem dJx4a65c_clear_da8c8_19 : decode cJx4a65c_clear_da8c8 19 = .ok (.istore_n 2, 1) := by decide +kernel
theorem dJx4a65c_clear_da8c8_20 : decode cJx4a65c_clear_da8c8 20 = .ok (.aload_n 0, 1) := by decide +kernel
theorem dJx4a65c_clear_da8c8_21 : decode cJx4a65c_clear_da8c8 21 = .ok (.iconst 0, 1) := by decide +kernel
theorem dJx4a65c_clear_da8c8_22 : decode cJx4a65c_clear_da8c8 22 = .ok (.dup_x1, 1) := by decide +kernel
theorem dJx4a65c_clear_da8c8_23 : decode cJx4a65c_clear_da8c8 23 = .ok (.putfield 48, 3) := by decide +kernel
theorem dJx4a65c_clear_da8c8_26 : decode cJx4a65c_clear_da8c8 26 = .ok (.istore_n 3, 1) := by decide +kernel
theorem dJx4a65c_clear_da8c8_27 : decode cJx4a65c_clear_da8c8 27 = .ok (.iload_n 3, 1) := by decide +kernel
theorem dJx4a65c_clear_da8c8_28 : decode cJx4a65c_clear_da8c8 28 = .ok (.iload_n 2, 1) := by decide +kernel
theorem dJx4a65c_clear_da8c8_29 : decode cJx4a65c_clear_da8c8 29 = .ok (.if_icmp .ge 13, 3) := by decide +kernel
theorem dJx4a65c_clear_da8c8_32 : decode cJx4a65c_clear_da8c8 32 = .ok (.aload_n 1, 1) := by decide +kernel
theorem dJx4a65c_clear_da8c8_33 : decode cJx4a65c_clear_da8c8 33 = .ok (.iload_n 3, 1) := by decide +kernel
theorem dJx4a65c_clear_da8c8_34 : decode cJx4a65c_clear_da8c8 34 = .ok (.aconst_null, 1) := by decide +kernel
theorem dJx4a65c_clear_da8c8_35 : decode cJx4a65c_clear_da8c8 35 = .ok (.aastore, 1) := by decide +kernel
theorem dJx4a65c_clear_da8c8_36 : decode cJx4a65c_clear_da8c8 36 = .ok (.iinc 3 1, 3) := by decide +kernel
theorem dJx4a65c_clear_da8c8_39 : decode cJx4a65c_clear_da8c8 39 = .ok (.goto (-12), 3) := by decide +kernel
theorem dJx4a65c_clear_da8c8_42 : decode cJx4a65c_clear_da8c8 42 = .ok (.return_, 1) := by decide +kernel
theorem dJ7_rangeCheck_23922_0 : decode cJ7_rangeCheck_23922 0 = .ok (.iload_n 1, 1) := by decide +kernel
theorem dJ7_rangeCheck_23922_1 : decode cJ7_rangeCheck_23922 1 = .ok (.iload_n 2, 1) := by decide +kernel
theorem dJ7_rangeCheck_23922_2 : decode cJ7_rangeCheck_23922 2 = .ok (.if_icmp .le 44, 3) := by decide +kernel
theorem dJ7_rangeCheck_23922_5 : decode cJ7_rangeCheck_23922 5 = .ok (.new 43, 3) := by decide +kernel
theorem dJ7_rangeCheck_23922_8 : decode cJ7_rangeCheck_23922 8 = .ok (.dup, 1) := by decide +kernel
theorem dJ7_rangeCheck_23922_9 : decode cJ7_rangeCheck_23922 9 = .ok (.new 45, 3) := by decide +kernel
theorem dJ7_rangeCheck_23922_12 : decode cJ7_rangeCheck_23922 12 = .ok (.dup, 1) := by decide +kernel
theorem dJ7_rangeCheck_23922_13 : decode cJ7_rangeCheck_23922 13 = .ok (.invokespecial 47, 3) := by decide +kernel
theorem dJ7_rangeCheck_23922_16 : decode cJ7_rangeCheck_23922 16 = .ok (.ldc 48, 2) := by decide +kernel
theorem dJ7_rangeCheck_23922_18 : decode cJ7_rangeCheck_23922 18 = .ok (.invokevirtual 50, 3) := by decide +kernel
theorem dJ7_rangeCheck_23922_21 : decode cJ7_rangeCheck_23922 21 = .ok (.iload_n 1, 1) := by decide +kernel
theorem dJ7_rangeCheck_23922_22 : decode cJ7_rangeCheck_23922 22 = .ok (.invokevirtual 54, 3) := by decide +kernel
theorem dJ7_rangeCheck_23922_25 : decode cJ7_rangeCheck_23922 25 = .ok (.ldc 57, 2) := by decide +kernel
theorem dJ7_rangeCheck_23922_27 : decode cJ7_rangeCheck_23922 27 = .ok (.invokevirtual 50, 3) := by decide +kernel
theorem dJ7_rangeCheck_23922_30 : decode cJ7_rangeCheck_23922 30 = .ok (.iload_n 2, 1) := by decide +kernel
theorem dJ7_rangeCheck_23922_31 : decode cJ7_rangeCheck_23922 31 = .ok (.invokevirtual 54, 3) := by decide +kernel
theorem dJ7_rangeCheck_23922_34 : decode cJ7_rangeCheck_23922 34 = .ok (.ldc 59, 2) := by decide +kernel
theorem dJ7_rangeCheck_23922_36 : decode cJ7_rangeCheck_23922 36 = .ok (.invokevirtual 50, 3) := by decide +kernel
theorem dJ7_rangeCheck_23922_39 : decode cJ7_rangeCheck_23922 39 = .ok (.invokevirtual 61, 3) := by decide +kernel
theorem dJ7_rangeCheck_23922_42 : decode cJ7_rangeCheck_23922 42 = .ok (.invokespecial 65, 3) := by decide +kernel
theorem dJ7_rangeCheck_23922_45 : decode cJ7_rangeCheck_23922 45 = .ok (.athrow, 1) := by decide +kernel
theorem dJ7_rangeCheck_23922_46 : decode cJ7_rangeCheck_23922 46 = .ok (.iload_n 1, 1) := by decide +kernel
theorem dJ7_rangeCheck_23922_47 : decode cJ7_rangeCheck_23922 47 = .ok (.ifCond .ge 12, 3) := by decide +kernel
theorem dJ7_rangeCheck_23922_50 : decode cJ7_rangeCheck_23922 50 = .ok (.new 68, 3) := by decide +kernel
theorem dJ7_rangeCheck_23922_53 : decode cJ7_rangeCheck_23922 53 = .ok (.dup, 1) := by decide +kernel
theorem dJ7_rangeCheck_23922_54 : decode cJ7_rangeCheck_23922 54 = .ok (.iload_n 1, 1) := by decide +kernel
theorem dJ7_rangeCheck_23922_55 : decode cJ7_rangeCheck_23922 55 = .ok (.invokespecial 70, 3) := by decide +kernel
theorem dJ7_rangeCheck_23922_58 : decode cJ7_rangeCheck_23922 58 = .ok (.athrow, 1) := by decide +kernel
theorem dJ7_rangeCheck_23922_59 : decode cJ7_rangeCheck_23922 59 = .ok (.iload_n 2, 1) := by decide +kernel
theorem dJ7_rangeCheck_23922_60 : decode cJ7_rangeCheck_23922 60 = .ok (.iload_n 0, 1) := by decide +kernel
theorem dJ7_rangeCheck_23922_61 : decode cJ7_rangeCheck_23922 61 = .ok (.if_icmp .le 12, 3) := by decide +kernel
theorem dJ7_rangeCheck_23922_64 : decode cJ7_rangeCheck_23922 64 = .ok (.new 68, 3) := by decide +kernel
theorem dJ7_rangeCheck_23922_67 : decode cJ7_rangeCheck_23922 67 = .ok (.dup, 1) := by decide +kernel
theorem dJ7_rangeCheck_23922_68 : decode cJ7_rangeCheck_23922 68 = .ok (.iload_n 2, 1) := by decide +kernel
theorem dJ7_rangeCheck_23922_69 : decode cJ7_rangeCheck_23922 69 = .ok (.invokespecial 70, 3) := by decide +kernel
theorem dJ7_rangeCheck_23922_72 : decode cJ7_rangeCheck_23922 72 = .ok (.athrow, 1) := by decide +kernel
theorem dJ7_rangeCheck_23922_73 : decode cJ7_rangeCheck_23922 73 = .ok (.return_, 1) := by decide +kernel
theorem dJ7_fill_53178_0 : decode cJ7_fill_53178 0 = .ok (.iconst 0, 1) := by decide +kernel
theorem dJ7_fill_53178_1 : decode cJ7_fill_53178 1 = .ok (.istore_n 2, 1) := by decide +kernel
theorem dJ7_fill_53178_2 : decode cJ7_fill_53178 2 = .ok (.aload_n 0, 1) := by decide +kernel
theorem dJ7_fill_53178_3 : decode cJ7_fill_53178 3 = .ok (.arraylength, 1) := by decide +kernel
theorem dJ7_fill_53178_4 : decode cJ7_fill_53178 4 = .ok (.istore_n 3, 1) := by decide +kernel
theorem dJ7_fill_53178_5 : decode cJ7_fill_53178 5 = .ok (.iload_n 2, 1) := by decide +kernel
theorem dJ7_fill_53178_6 : decode cJ7_fill_53178 6 = .ok (.iload_n 3, 1) := by decide +kernel
theorem dJ7_fill_53178_7 : decode cJ7_fill_53178 7 = .ok (.if_icmp .ge 13, 3) := by decide +kernel
theorem dJ7_fill_53178_10 : decode cJ7_fill_53178 10 = .ok (.aload_n 0, 1) := by decide +kernel
theorem dJ7_fill_53178_11 : decode cJ7_fill_53178 11 = .ok (.iload_n 2, 1) := by decide +kernel
theorem dJ7_fill_53178_12 : decode cJ7_fill_53178 12 = .ok (.iload_n 1, 1) := by decide +kernel
theorem dJ7_fill_53178_13 : decode cJ7_fill_53178 13 = .ok (.iastore, 1) := by decide +kernel
theorem dJ7_fill_53178_14 : decode cJ7_fill_53178 14 = .ok (.iinc 2 1, 3) := by decide +kernel
theorem dJ7_fill_53178_17 : decode cJ7_fill_53178 17 = .ok (.goto (-12), 3) := by decide +kernel
theorem dJ7_fill_53178_20 : decode cJ7_fill_53178 20 = .ok (.return_, 1) := by decide +kernel
theorem dJ7_fill_fda19_0 : decode cJ7_fill_fda19 0 = .ok (.aload_n 0, 1) := by decide +kernel
theorem dJ7_fill_fda19_1 : decode cJ7_fill_fda19 1 = .ok (.arraylength, 1) := by decide +kernel
theorem dJ7_fill_fda19_2 : decode cJ7_fill_fda19 2 = .ok (.iload_n 1, 1) := by decide +kernel
theorem dJ7_fill_fda19_3 : decode cJ7_fill_fda19 3 = .ok (.iload_n 2, 1) := by decide +kernel
theorem dJ7_fill_fda19_4 : decode cJ7_fill_fda19 4 = .ok (.invokestatic 13, 3) := by decide +kernel
theorem dJ7_fill_fda19_7 : decode cJ7_fill_fda19 7 = .ok (.iload_n 1, 1) := by decide +kernel
theorem dJ7_fill_fda19_8 : decode cJ7_fill_fda19 8 = .ok (.istore 4, 2) := by decide +kernel
theorem dJ7_fill_fda19_10 : decode cJ7_fill_fda19 10 = .ok (.iload 4, 2) := by decide +kernel
theorem dJ7_fill_fda19_12 : decode cJ7_fill_fda19 12 = .ok (.iload_n 2, 1) := by decide +kernel
theorem dJ7_fill_fda19_13 : decode cJ7_fill_fda19 13 = .ok (.if_icmp .ge 14, 3) := by decide +kernel
theorem dJ7_fill_fda19_16 : decode cJ7_fill_fda19 16 = .ok (.aload_n 0, 1) := by decide +kernel
theorem dJ7_fill_fda19_17 : decode cJ7_fill_fda19 17 = .ok (.iload 4, 2) := by decide +kernel
theorem dJ7_fill_fda19_19 : decode cJ7_fill_fda19 19 = .ok (.iload_n 3, 1) := by decide +kernel
theorem dJ7_fill_fda19_20 : decode cJ7_fill_fda19 20 = .ok (.iastore, 1) := by decide +kernel
theorem dJ7_fill_fda19_21 : decode cJ7_fill_fda19 21 = .ok (.iinc 4 1, 3) := by decide +kernel
theorem dJ7_fill_fda19_24 : decode cJ7_fill_fda19 24 = .ok (.goto (-14), 3) := by decide +kernel
theorem dJ7_fill_fda19_27 : decode cJ7_fill_fda19 27 = .ok (.return_, 1) := by decide +kernel
theorem dJ7_copyOf_1904c_0 : decode cJ7_copyOf_1904c 0 = .ok (.aload_n 0, 1) := by decide +kernel
theorem dJ7_copyOf_1904c_1 : decode cJ7_copyOf_1904c 1 = .ok (.iload_n 1, 1) := by decide +kernel
theorem dJ7_copyOf_1904c_2 : decode cJ7_copyOf_1904c 2 = .ok (.aload_n 0, 1) := by decide +kernel
theorem dJ7_copyOf_1904c_3 : decode cJ7_copyOf_1904c 3 = .ok (.invokevirtual 86, 3) := by decide +kernel
theorem dJ7_copyOf_1904c_6 : decode cJ7_copyOf_1904c 6 = .ok (.invokestatic 300, 3) := by decide +kernel
theorem dJ7_copyOf_1904c_9 : decode cJ7_copyOf_1904c 9 = .ok (.areturn, 1) := by decide +kernel
theorem dJ7_copyOf_6403c_0 : decode cJ7_copyOf_6403c 0 = .ok (.aload_n 2, 1) := by decide +kernel
theorem dJ7_copyOf_6403c_1 : decode cJ7_copyOf_6403c 1 = .ok (.ldc 110, 2) := by decide +kernel
theorem dJ7_copyOf_6403c_3 : decode cJ7_copyOf_6403c 3 = .ok (.if_acmp .ne 10, 3) := by decide +kernel
theorem dJ7_copyOf_6403c_6 : decode cJ7_copyOf_6403c 6 = .ok (.iload_n 1, 1) := by decide +kernel
theorem dJ7_copyOf_6403c_7 : decode cJ7_copyOf_6403c 7 = .ok (.anewarray 2, 3) := by decide +kernel
theorem dJ7_copyOf_6403c_10 : decode cJ7_copyOf_6403c 10 = .ok (.goto 14, 3) := by decide +kernel
theorem dJ7_copyOf_6403c_13 : decode cJ7_copyOf_6403c 13 = .ok (.aload_n 2, 1) := by decide +kernel
theorem dJ7_copyOf_6403c_14 : decode cJ7_copyOf_6403c 14 = .ok (.invokevirtual 90, 3) := by decide +kernel
theorem dJ7_copyOf_6403c_17 : decode cJ7_copyOf_6403c 17 = .ok (.iload_n 1, 1) := by decide +kernel
theorem dJ7_copyOf_6403c_18 : decode cJ7_copyOf_6403c 18 = .ok (.invokestatic 95, 3) := by decide +kernel
theorem dJ7_copyOf_6403c_21 : decode cJ7_copyOf_6403c 21 = .ok (.checkcast 110, 3) := by decide +kernel
theorem dJ7_copyOf_6403c_24 : decode cJ7_copyOf_6403c 24 = .ok (.astore_n 3, 1) := by decide +kernel
theorem dJ7_copyOf_6403c_25 : decode cJ7_copyOf_6403c 25 = .ok (.aload_n 0, 1) := by decide +kernel
theorem dJ7_copyOf_6403c_26 : decode cJ7_copyOf_6403c 26 = .ok (.iconst 0, 1) := by decide +kernel
theorem dJ7_copyOf_6403c_27 : decode cJ7_copyOf_6403c 27 = .ok (.aload_n 3, 1) := by decide +kernel
theorem dJ7_copyOf_6403c_28 : decode cJ7_copyOf_6403c 28 = .ok (.iconst 0, 1) := by decide +kernel
theorem dJ7_copyOf_6403c_29 : decode cJ7_copyOf_6403c 29 = .ok (.aload_n 0, 1) := by decide +kernel
theorem dJ7_copyOf_6403c_30 : decode cJ7_copyOf_6403c 30 = .ok (.arraylength, 1) := by decide +kernel
theorem dJ7_copyOf_6403c_31 : decode cJ7_copyOf_6403c 31 = .ok (.iload_n 1, 1) := by decide +kernel
theorem dJ7_copyOf_6403c_32 : decode cJ7_copyOf_6403c 32 = .ok (.invokestatic 304, 3) := by decide +kernel
theorem dJ7_copyOf_6403c_35 : decode cJ7_copyOf_6403c 35 = .ok (.invokestatic 150, 3) := by decide +kernel
theorem dJ7_copyOf_6403c_38 : decode cJ7_copyOf_6403c 38 = .ok (.aload_n 3, 1) := by decide +kernel
theorem dJ7_copyOf_6403c_39 : decode cJ7_copyOf_6403c 39 = .ok (.areturn, 1) := by decide +kernel
theorem dJ15_checkIndex_7cf53_0 : decode cJ15_checkIndex_7cf53 0 = .ok (.iload_n 0, 1) := by decide +kernel
theorem dJ15_checkIndex_7cf53_1 : decode cJ15_checkIndex_7cf53 1 = .ok (.iload_n 1, 1) := by decide +kernel
theorem dJ15_checkIndex_7cf53_2 : decode cJ15_checkIndex_7cf53 2 = .ok (.aconst_null, 1) := by decide +kernel
theorem dJ15_checkIndex_7cf53_3 : decode cJ15_checkIndex_7cf53 3 = .ok (.invokestatic 105, 3) := by decide +kernel
theorem dJ15_checkIndex_7cf53_6 : decode cJ15_checkIndex_7cf53 6 = .ok (.ireturn, 1) := by decide +kernel
theorem dJ8_newLength_cabcc_0 : decode cJ8_newLength_cabcc 0 = .ok (.iload_n 0, 1) := by decide +kernel
theorem dJ8_newLength_cabcc_1 : decode cJ8_newLength_cabcc 1 = .ok (.iload_n 1, 1) := by decide +kernel
theorem dJ8_newLength_cabcc_2 : decode cJ8_newLength_cabcc 2 = .ok (.iload_n 2, 1) := by decide +kernel
theorem dJ8_newLength_cabcc_3 : decode cJ8_newLength_cabcc 3 = .ok (.invokestatic 194, 3) := by decide +kernel
theorem dJ8_newLength_cabcc_6 : decode cJ8_newLength_cabcc 6 = .ok (.iadd, 1) := by decide +kernel
theorem dJ8_newLength_cabcc_7 : decode cJ8_newLength_cabcc 7 = .ok (.istore_n 3, 1) := by decide +kernel
theorem dJ8_newLength_cabcc_8 : decode cJ8_newLength_cabcc 8 = .ok (.iconst 0, 1) := by decide +kernel
theorem dJ8_newLength_cabcc_9 : decode cJ8_newLength_cabcc 9 = .ok (.iload_n 3, 1) := by decide +kernel
theorem dJ8_newLength_cabcc_10 : decode cJ8_newLength_cabcc 10 = .ok (.if_icmp .ge 11, 3) := by decide +kernel
theorem dJ8_newLength_cabcc_13 : decode cJ8_newLength_cabcc 13 = .ok (.iload_n 3, 1) := by decide +kernel
theorem dJ8_newLength_cabcc_14 : decode cJ8_newLength_cabcc 14 = .ok (.ldc 200, 2) := by decide +kernel
theorem dJ8_newLength_cabcc_16 : decode cJ8_newLength_cabcc 16 = .ok (.if_icmp .gt 5, 3) := by decide +kernel
theorem dJ8_newLength_cabcc_19 : decode cJ8_newLength_cabcc 19 = .ok (.iload_n 3, 1) := by decide +kernel
theorem dJ8_newLength_cabcc_20 : decode cJ8_newLength_cabcc 20 = .ok (.ireturn, 1) := by decide +kernel
theorem dJ8_newLength_cabcc_21 : decode cJ8_newLength_cabcc 21 = .ok (.iload_n 0, 1) := by decide +kernel
theorem dJ8_newLength_cabcc_22 : decode cJ8_newLength_cabcc 22 = .ok (.iload_n 1, 1) := by decide +kernel
theorem dJ8_newLength_cabcc_23 : decode cJ8_newLength_cabcc 23 = .ok (.invokestatic 201, 3) := by decide +kernel
theorem dJ8_newLength_cabcc_26 : decode cJ8_newLength_cabcc 26 = .ok (.ireturn, 1) := by decide +kernel
theorem dJ8_hugeLength_7cf53_0 : decode cJ8_hugeLength_7cf53 0 = .ok (.iload_n 0, 1) := by decide +kernel
theorem dJ8_hugeLength_7cf53_1 : decode cJ8_hugeLength_7cf53 1 = .ok (.iload_n 1, 1) := by decide +kernel
theorem dJ8_hugeLength_7cf53_2 : decode cJ8_hugeLength_7cf53 2 = .ok (.iadd, 1) := by decide +kernel
theorem dJ8_hugeLength_7cf53_3 : decode cJ8_hugeLength_7cf53 3 = .ok (.istore_n 2, 1) := by decide +kernel
theorem dJ8_hugeLength_7cf53_4 : decode cJ8_hugeLength_7cf53 4 = .ok (.iload_n 2, 1) := by decide +kernel
theorem dJ8_hugeLength_7cf53_5 : decode cJ8_hugeLength_7cf53 5 = .ok (.ifCond .ge 44, 3) := by decide +kernel
theorem dJ8_hugeLength_7cf53_8 : decode cJ8_hugeLength_7cf53 8 = .ok (.new 204, 3) := by decide +kernel
theorem dJ8_hugeLength_7cf53_11 : decode cJ8_hugeLength_7cf53 11 = .ok (.dup, 1) := by decide +kernel
theorem dJ8_hugeLength_7cf53_12 : decode cJ8_hugeLength_7cf53 12 = .ok (.new 89, 3) := by decide +kernel
theorem dJ8_hugeLength_7cf53_15 : decode cJ8_hugeLength_7cf53 15 = .ok (.dup, 1) := by decide +kernel
theorem dJ8_hugeLength_7cf53_16 : decode cJ8_hugeLength_7cf53 16 = .ok (.invokespecial 91, 3) := by decide +kernel
theorem dJ8_hugeLength_7cf53_19 : decode cJ8_hugeLength_7cf53 19 = .ok (.ldc 206, 2) := by decide +kernel
theorem dJ8_hugeLength_7cf53_21 : decode cJ8_hugeLength_7cf53 21 = .ok (.invokevirtual 94, 3) := by decide +kernel
theorem dJ8_hugeLength_7cf53_24 : decode cJ8_hugeLength_7cf53 24 = .ok (.iload_n 0, 1) := by decide +kernel
theorem dJ8_hugeLength_7cf53_25 : decode cJ8_hugeLength_7cf53 25 = .ok (.invokevirtual 98, 3) := by decide +kernel
theorem dJ8_hugeLength_7cf53_28 : decode cJ8_hugeLength_7cf53 28 = .ok (.ldc 208, 2) := by decide +kernel
theorem dJ8_hugeLength_7cf53_30 : decode cJ8_hugeLength_7cf53 30 = .ok (.invokevirtual 94, 3) := by decide +kernel
theorem dJ8_hugeLength_7cf53_33 : decode cJ8_hugeLength_7cf53 33 = .ok (.iload_n 1, 1) := by decide +kernel
theorem dJ8_hugeLength_7cf53_34 : decode cJ8_hugeLength_7cf53 34 = .ok (.invokevirtual 98, 3) := by decide +kernel
theorem dJ8_hugeLength_7cf53_37 : decode cJ8_hugeLength_7cf53 37 = .ok (.ldc 210, 2) := by decide +kernel
theorem dJ8_hugeLength_7cf53_39 : decode cJ8_hugeLength_7cf53 39 = .ok (.invokevirtual 94, 3) := by decide +kernel
theorem dJ8_hugeLength_7cf53_42 : decode cJ8_hugeLength_7cf53 42 = .ok (.invokevirtual 101, 3) := by decide +kernel
theorem dJ8_hugeLength_7cf53_45 : decode cJ8_hugeLength_7cf53 45 = .ok (.invokespecial 212, 3) := by decide +kernel
theorem dJ8_hugeLength_7cf53_48 : decode cJ8_hugeLength_7cf53 48 = .ok (.athrow, 1) := by decide +kernel
theorem dJ8_hugeLength_7cf53_49 : decode cJ8_hugeLength_7cf53 49 = .ok (.iload_n 2, 1) := by decide +kernel
theorem dJ8_hugeLength_7cf53_50 : decode cJ8_hugeLength_7cf53 50 = .ok (.ldc 200, 2) := by decide +kernel
theorem dJ8_hugeLength_7cf53_52 : decode cJ8_hugeLength_7cf53 52 = .ok (.if_icmp .gt 6, 3) := by decide +kernel
theorem dJ8_hugeLength_7cf53_55 : decode cJ8_hugeLength_7cf53 55 = .ok (.ldc 200, 2) := by decide +kernel
theorem dJ8_hugeLength_7cf53_57 : decode cJ8_hugeLength_7cf53 57 = .ok (.ireturn, 1) := by decide +kernel
theorem dJ8_hugeLength_7cf53_58 : decode cJ8_hugeLength_7cf53 58 = .ok (.iload_n 2, 1) := by decide +kernel
theorem dJ8_hugeLength_7cf53_59 : decode cJ8_hugeLength_7cf53 59 = .ok (.ireturn, 1) := by decide +kernel
theorem dJ3_checkIndex_8e157_0 : decode cJ3_checkIndex_8e157 0 = .ok (.iload_n 0, 1) := by decide +kernel
theorem dJ3_checkIndex_8e157_1 : decode cJ3_checkIndex_8e157 1 = .ok (.ifCond .lt 8, 3) := by decide +kernel
theorem dJ3_checkIndex_8e157_4 : decode cJ3_checkIndex_8e157 4 = .ok (.iload_n 0, 1) := by decide +kernel
theorem dJ3_checkIndex_8e157_5 : decode cJ3_checkIndex_8e157 5 = .ok (.iload_n 1, 1) := by decide +kernel
theorem dJ3_checkIndex_8e157_6 : decode cJ3_checkIndex_8e157 6 = .ok (.if_icmp .lt 10, 3) := by decide +kernel
theorem dJ3_checkIndex_8e157_9 : decode cJ3_checkIndex_8e157 9 = .ok (.aload_n 2, 1) := by decide +kernel
theorem dJ3_checkIndex_8e157_10 : decode cJ3_checkIndex_8e157 10 = .ok (.iload_n 0, 1) := by decide +kernel
theorem dJ3_checkIndex_8e157_11 : decode cJ3_checkIndex_8e157 11 = .ok (.iload_n 1, 1) := by decide +kernel
theorem dJ3_checkIndex_8e157_12 : decode cJ3_checkIndex_8e157 12 = .ok (.invokestatic 95, 3) := by decide +kernel
theorem dJ3_checkIndex_8e157_15 : decode cJ3_checkIndex_8e157 15 = .ok (.athrow, 1) := by decide +kernel
theorem dJ3_checkIndex_8e157_16 : decode cJ3_checkIndex_8e157 16 = .ok (.iload_n 0, 1) := by decide +kernel
theorem dJ3_checkIndex_8e157_17 : decode cJ3_checkIndex_8e157 17 = .ok (.ireturn, 1) := by decide +kernel
theorem dL_law_0 : decode cL_law 0 = .ok (.new 7, 3) := by decide +kernel
theorem dL_law_3 : decode cL_law 3 = .ok (.dup, 1) := by decide +kernel
theorem dL_law_4 : decode cL_law 4 = .ok (.invokespecial 9, 3) := by decide +kernel
theorem dL_law_7 : decode cL_law 7 = .ok (.astore_n 1, 1) := by decide +kernel
theorem dL_law_8 : decode cL_law 8 = .ok (.new 10, 3) := by decide +kernel
theorem dL_law_11 : decode cL_law 11 = .ok (.dup, 1) := by decide +kernel
theorem dL_law_12 : decode cL_law 12 = .ok (.invokespecial 12, 3) := by decide +kernel
theorem dL_law_15 : decode cL_law 15 = .ok (.astore_n 2, 1) := by decide +kernel
theorem dL_law_16 : decode cL_law 16 = .ok (.iconst 0, 1) := by decide +kernel
theorem dL_law_17 : decode cL_law 17 = .ok (.istore_n 3, 1) := by decide +kernel
theorem dL_law_18 : decode cL_law 18 = .ok (.iload_n 3, 1) := by decide +kernel
theorem dL_law_19 : decode cL_law 19 = .ok (.aload_n 0, 1) := by decide +kernel
theorem dL_law_20 : decode cL_law 20 = .ok (.arraylength, 1) := by decide +kernel
theorem dL_law_21 : decode cL_law 21 = .ok (.bipush 7, 2) := by decide +kernel
theorem dL_law_23 : decode cL_law 23 = .ok (.isub, 1) := by decide +kernel
theorem dL_law_24 : decode cL_law 24 = .ok (.if_icmp .gt 435, 3) := by decide +kernel
theorem dL_law_27 : decode cL_law 27 = .ok (.aload_n 0, 1) := by decide +kernel
theorem dL_law_28 : decode cL_law 28 = .ok (.iload_n 3, 1) := by decide +kernel
theorem dL_law_29 : decode cL_law 29 = .ok (.iaload, 1) := by decide +kernel
theorem dL_law_30 : decode cL_law 30 = .ok (.bipush 15, 2) := by decide +kernel
theorem dL_law_32 : decode cL_law 32 = .ok (.iand, 1) := by decide +kernel
theorem dL_law_33 : decode cL_law 33 = .ok (.tableswitch 420 0 8 #[51, 126, 189, 242, 265, 288, 331, 354, 387], 51) := by decide +kernel
theorem dL_law_84 : decode cL_law 84 = .ok (.aload_n 1, 1) := by decide +kernel
theorem dL_law_85 : decode cL_law 85 = .ok (.aload_n 0, 1) := by decide +kernel
theorem dL_law_86 : decode cL_law 86 = .ok (.iload_n 3, 1) := by decide +kernel
theorem dL_law_87 : decode cL_law 87 = .ok (.iconst 1, 1) := by decide +kernel
theorem dL_law_88 : decode cL_law 88 = .ok (.iadd, 1) := by decide +kernel
theorem dL_law_89 : decode cL_law 89 = .ok (.iaload, 1) := by decide +kernel
theorem dL_law_90 : decode cL_law 90 = .ok (.aload_n 0, 1) := by decide +kernel
theorem dL_law_91 : decode cL_law 91 = .ok (.iload_n 3, 1) := by decide +kernel
theorem dL_law_92 : decode cL_law 92 = .ok (.iconst 2, 1) := by decide +kernel
theorem dL_law_93 : decode cL_law 93 = .ok (.iadd, 1) := by decide +kernel
theorem dL_law_94 : decode cL_law 94 = .ok (.iaload, 1) := by decide +kernel
theorem dL_law_95 : decode cL_law 95 = .ok (.aload_n 0, 1) := by decide +kernel
theorem dL_law_96 : decode cL_law 96 = .ok (.iload_n 3, 1) := by decide +kernel
theorem dL_law_97 : decode cL_law 97 = .ok (.iconst 3, 1) := by decide +kernel
theorem dL_law_98 : decode cL_law 98 = .ok (.iadd, 1) := by decide +kernel
theorem dL_law_99 : decode cL_law 99 = .ok (.iaload, 1) := by decide +kernel
theorem dL_law_100 : decode cL_law 100 = .ok (.aload_n 0, 1) := by decide +kernel
theorem dL_law_101 : decode cL_law 101 = .ok (.iload_n 3, 1) := by decide +kernel
theorem dL_law_102 : decode cL_law 102 = .ok (.iconst 4, 1) := by decide +kernel
theorem dL_law_103 : decode cL_law 103 = .ok (.iadd, 1) := by decide +kernel
theorem dL_law_104 : decode cL_law 104 = .ok (.iaload, 1) := by decide +kernel
theorem dL_law_105 : decode cL_law 105 = .ok (.aload_n 0, 1) := by decide +kernel
theorem dL_law_106 : decode cL_law 106 = .ok (.iload_n 3, 1) := by decide +kernel
theorem dL_law_107 : decode cL_law 107 = .ok (.iconst 5, 1) := by decide +kernel
theorem dL_law_108 : decode cL_law 108 = .ok (.iadd, 1) := by decide +kernel
theorem dL_law_109 : decode cL_law 109 = .ok (.iaload, 1) := by decide +kernel
theorem dL_law_110 : decode cL_law 110 = .ok (.aload_n 0, 1) := by decide +kernel
theorem dL_law_111 : decode cL_law 111 = .ok (.iload_n 3, 1) := by decide +kernel
theorem dL_law_112 : decode cL_law 112 = .ok (.bipush 6, 2) := by decide +kernel
theorem dL_law_114 : decode cL_law 114 = .ok (.iadd, 1) := by decide +kernel
theorem dL_law_115 : decode cL_law 115 = .ok (.iaload, 1) := by decide +kernel
theorem dL_law_116 : decode cL_law 116 = .ok (.invokevirtual 13, 3) := by decide +kernel
theorem dL_law_119 : decode cL_law 119 = .ok (.aload_n 2, 1) := by decide +kernel
theorem dL_law_120 : decode cL_law 120 = .ok (.aload_n 0, 1) := by decide +kernel
theorem dL_law_121 : decode cL_law 121 = .ok (.iload_n 3, 1) := by decide +kernel
theorem dL_law_122 : decode cL_law 122 = .ok (.iconst 1, 1) := by decide +kernel
theorem dL_law_123 : decode cL_law 123 = .ok (.iadd, 1) := by decide +kernel
theorem dL_law_124 : decode cL_law 124 = .ok (.iaload, 1) := by decide +kernel
theorem dL_law_125 : decode cL_law 125 = .ok (.aload_n 0, 1) := by decide +kernel
theorem dL_law_126 : decode cL_law 126 = .ok (.iload_n 3, 1) := by decide +kernel
theorem dL_law_127 : decode cL_law 127 = .ok (.iconst 2, 1) := by decide +kernel
theorem dL_law_128 : decode cL_law 128 = .ok (.iadd, 1) := by decide +kernel
theorem dL_law_129 : decode cL_law 129 = .ok (.iaload, 1) := by decide +kernel
theorem dL_law_130 : decode cL_law 130 = .ok (.aload_n 0, 1) := by decide +kernel
theorem dL_law_131 : decode cL_law 131 = .ok (.iload_n 3, 1) := by decide +kernel
theorem dL_law_132 : decode cL_law 132 = .ok (.iconst 3, 1) := by decide +kernel
theorem dL_law_133 : decode cL_law 133 = .ok (.iadd, 1) := by decide +kernel
theorem dL_law_134 : decode cL_law 134 = .ok (.iaload, 1) := by decide +kernel
theorem dL_law_135 : decode cL_law 135 = .ok (.aload_n 0, 1) := by decide +kernel
theorem dL_law_136 : decode cL_law 136 = .ok (.iload_n 3, 1) := by decide +kernel
theorem dL_law_137 : decode cL_law 137 = .ok (.iconst 4, 1) := by decide +kernel
theorem dL_law_138 : decode cL_law 138 = .ok (.iadd, 1) := by decide +kernel
theorem dL_law_139 : decode cL_law 139 = .ok (.iaload, 1) := by decide +kernel
theorem dL_law_140 : decode cL_law 140 = .ok (.aload_n 0, 1) := by decide +kernel
theorem dL_law_141 : decode cL_law 141 = .ok (.iload_n 3, 1) := by decide +kernel
theorem dL_law_142 : decode cL_law 142 = .ok (.iconst 5, 1) := by decide +kernel
theorem dL_law_143 : decode cL_law 143 = .ok (.iadd, 1) := by decide +kernel
theorem dL_law_144 : decode cL_law 144 = .ok (.iaload, 1) := by decide +kernel
theorem dL_law_145 : decode cL_law 145 = .ok (.aload_n 0, 1) := by decide +kernel
theorem dL_law_146 : decode cL_law 146 = .ok (.iload_n 3, 1) := by decide +kernel
theorem dL_law_147 : decode cL_law 147 = .ok (.bipush 6, 2) := by decide +kernel
theorem dL_law_149 : decode cL_law 149 = .ok (.iadd, 1) := by decide +kernel
theorem dL_law_150 : decode cL_law 150 = .ok (.iaload, 1) := by decide +kernel
theorem dL_law_151 : decode cL_law 151 = .ok (.invokevirtual 17, 3) := by decide +kernel
theorem dL_law_154 : decode cL_law 154 = .ok (.if_icmp .eq 299, 3) := by decide +kernel
theorem dL_law_157 : decode cL_law 157 = .ok (.iconst 0, 1) := by decide +kernel
theorem dL_law_158 : decode cL_law 158 = .ok (.ireturn, 1) := by decide +kernel
theorem dL_law_159 : decode cL_law 159 = .ok (.aload_n 1, 1) := by decide +kernel
theorem dL_law_160 : decode cL_law 160 = .ok (.aload_n 0, 1) := by decide +kernel
theorem dL_law_161 : decode cL_law 161 = .ok (.iload_n 3, 1) := by decide +kernel
theorem dL_law_162 : decode cL_law 162 = .ok (.iconst 1, 1) := by decide +kernel
theorem dL_law_163 : decode cL_law 163 = .ok (.iadd, 1) := by decide +kernel
theorem dL_law_164 : decode cL_law 164 = .ok (.iaload, 1) := by decide +kernel
theorem dL_law_165 : decode cL_law 165 = .ok (.aload_n 0, 1) := by decide +kernel
theorem dL_law_166 : decode cL_law 166 = .ok (.iload_n 3, 1) := by decide +kernel
theorem dL_law_167 : decode cL_law 167 = .ok (.iconst 2, 1) := by decide +kernel
theorem dL_law_168 : decode cL_law 168 = .ok (.iadd, 1) := by decide +kernel
theorem dL_law_169 : decode cL_law 169 = .ok (.iaload, 1) := by decide +kernel
theorem dL_law_170 : decode cL_law 170 = .ok (.aload_n 0, 1) := by decide +kernel
theorem dL_law_171 : decode cL_law 171 = .ok (.iload_n 3, 1) := by decide +kernel
theorem dL_law_172 : decode cL_law 172 = .ok (.iconst 3, 1) := by decide +kernel
theorem dL_law_173 : decode cL_law 173 = .ok (.iadd, 1) := by decide +kernel
theorem dL_law_174 : decode cL_law 174 = .ok (.iaload, 1) := by decide +kernel
theorem dL_law_175 : decode cL_law 175 = .ok (.aload_n 0, 1) := by decide +kernel
theorem dL_law_176 : decode cL_law 176 = .ok (.iload_n 3, 1) := by decide +kernel
theorem dL_law_177 : decode cL_law 177 = .ok (.iconst 4, 1) := by decide +kernel
theorem dL_law_178 : decode cL_law 178 = .ok (.iadd, 1) := by decide +kernel
theorem dL_law_179 : decode cL_law 179 = .ok (.iaload, 1) := by decide +kernel
theorem dL_law_180 : decode cL_law 180 = .ok (.aload_n 0, 1) := by decide +kernel
theorem dL_law_181 : decode cL_law 181 = .ok (.iload_n 3, 1) := by decide +kernel
theorem dL_law_182 : decode cL_law 182 = .ok (.iconst 5, 1) := by decide +kernel
theorem dL_law_183 : decode cL_law 183 = .ok (.iadd, 1) := by decide +kernel
theorem dL_law_184 : decode cL_law 184 = .ok (.iaload, 1) := by decide +kernel
theorem dL_law_185 : decode cL_law 185 = .ok (.invokevirtual 18, 3) := by decide +kernel
theorem dL_law_188 : decode cL_law 188 = .ok (.aload_n 2, 1) := by decide +kernel
theorem dL_law_189 : decode cL_law 189 = .ok (.aload_n 0, 1) := by decide +kernel
theorem dL_law_190 : decode cL_law 190 = .ok (.iload_n 3, 1) := by decide +kernel
theorem dL_law_191 : decode cL_law 191 = .ok (.iconst 1, 1) := by decide +kernel
theorem dL_law_192 : decode cL_law 192 = .ok (.iadd, 1) := by decide +kernel
theorem dL_law_193 : decode cL_law 193 = .ok (.iaload, 1) := by decide +kernel
theorem dL_law_194 : decode cL_law 194 = .ok (.aload_n 0, 1) := by decide +kernel
theorem dL_law_195 : decode cL_law 195 = .ok (.iload_n 3, 1) := by decide +kernel
theorem dL_law_196 : decode cL_law 196 = .ok (.iconst 2, 1) := by decide +kernel
theorem dL_law_197 : decode cL_law 197 = .ok (.iadd, 1) := by decide +kernel
theorem dL_law_198 : decode cL_law 198 = .ok (.iaload, 1) := by decide +kernel
theorem dL_law_199 : decode cL_law 199 = .ok (.aload_n 0, 1) := by decide +kernel
theorem dL_law_200 : decode cL_law 200 = .ok (.iload_n 3, 1) := by decide +kernel
theorem dL_law_201 : decode cL_law 201 = .ok (.iconst 3, 1) := by decide +kernel
theorem dL_law_202 : decode cL_law 202 = .ok (.iadd, 1) := by decide +kernel
theorem dL_law_203 : decode cL_law 203 = .ok (.iaload, 1) := by decide +kernel
theorem dL_law_204 : decode cL_law 204 = .ok (.aload_n 0, 1) := by decide +kernel
theorem dL_law_205 : decode cL_law 205 = .ok (.iload_n 3, 1) := by decide +kernel
theorem dL_law_206 : decode cL_law 206 = .ok (.iconst 4, 1) := by decide +kernel
theorem dL_law_207 : decode cL_law 207 = .ok (.iadd, 1) := by decide +kernel
theorem dL_law_208 : decode cL_law 208 = .ok (.iaload, 1) := by decide +kernel
theorem dL_law_209 : decode cL_law 209 = .ok (.aload_n 0, 1) := by decide +kernel
theorem dL_law_210 : decode cL_law 210 = .ok (.iload_n 3, 1) := by decide +kernel
theorem dL_law_211 : decode cL_law 211 = .ok (.iconst 5, 1) := by decide +kernel
theorem dL_law_212 : decode cL_law 212 = .ok (.iadd, 1) := by decide +kernel
theorem dL_law_213 : decode cL_law 213 = .ok (.iaload, 1) := by decide +kernel
theorem dL_law_214 : decode cL_law 214 = .ok (.invokevirtual 22, 3) := by decide +kernel
theorem dL_law_217 : decode cL_law 217 = .ok (.if_icmp .eq 236, 3) := by decide +kernel
theorem dL_law_220 : decode cL_law 220 = .ok (.iconst 0, 1) := by decide +kernel
theorem dL_law_221 : decode cL_law 221 = .ok (.ireturn, 1) := by decide +kernel
theorem dL_law_222 : decode cL_law 222 = .ok (.aload_n 1, 1) := by decide +kernel
theorem dL_law_223 : decode cL_law 223 = .ok (.aload_n 0, 1) := by decide +kernel
theorem dL_law_224 : decode cL_law 224 = .ok (.iload_n 3, 1) := by decide +kernel
theorem dL_law_225 : decode cL_law 225 = .ok (.iconst 1, 1) := by decide +kernel
theorem dL_law_226 : decode cL_law 226 = .ok (.iadd, 1) := by decide +kernel
theorem dL_law_227 : decode cL_law 227 = .ok (.iaload, 1) := by decide +kernel
theorem dL_law_228 : decode cL_law 228 = .ok (.aload_n 0, 1) := by decide +kernel
theorem dL_law_229 : decode cL_law 229 = .ok (.iload_n 3, 1) := by decide +kernel
theorem dL_law_230 : decode cL_law 230 = .ok (.iconst 2, 1) := by decide +kernel
theorem dL_law_231 : decode cL_law 231 = .ok (.iadd, 1) := by decide +kernel
theorem dL_law_232 : decode cL_law 232 = .ok (.iaload, 1) := by decide +kernel
theorem dL_law_233 : decode cL_law 233 = .ok (.aload_n 0, 1) := by decide +kernel
theorem dL_law_234 : decode cL_law 234 = .ok (.iload_n 3, 1) := by decide +kernel
theorem dL_law_235 : decode cL_law 235 = .ok (.iconst 3, 1) := by decide +kernel
theorem dL_law_236 : decode cL_law 236 = .ok (.iadd, 1) := by decide +kernel
theorem dL_law_237 : decode cL_law 237 = .ok (.iaload, 1) := by decide +kernel
theorem dL_law_238 : decode cL_law 238 = .ok (.aload_n 0, 1) := by decide +kernel
theorem dL_law_239 : decode cL_law 239 = .ok (.iload_n 3, 1) := by decide +kernel
theorem dL_law_240 : decode cL_law 240 = .ok (.iconst 4, 1) := by decide +kernel
theorem dL_law_241 : decode cL_law 241 = .ok (.iadd, 1) := by decide +kernel
theorem dL_law_242 : decode cL_law 242 = .ok (.iaload, 1) := by decide +kernel
theorem dL_law_243 : decode cL_law 243 = .ok (.invokevirtual 23, 3) := by decide +kernel
theorem dL_law_246 : decode cL_law 246 = .ok (.aload_n 2, 1) := by decide +kernel
theorem dL_law_247 : decode cL_law 247 = .ok (.aload_n 0, 1) := by decide +kernel
theorem dL_law_248 : decode cL_law 248 = .ok (.iload_n 3, 1) := by decide +kernel
theorem dL_law_249 : decode cL_law 249 = .ok (.iconst 1, 1) := by decide +kernel
theorem dL_law_250 : decode cL_law 250 = .ok (.iadd, 1) := by decide +kernel
theorem dL_law_251 : decode cL_law 251 = .ok (.iaload, 1) := by decide +kernel
theorem dL_law_252 : decode cL_law 252 = .ok (.aload_n 0, 1) := by decide +kernel
theorem dL_law_253 : decode cL_law 253 = .ok (.iload_n 3, 1) := by decide +kernel
theorem dL_law_254 : decode cL_law 254 = .ok (.iconst 2, 1) := by decide +kernel
theorem dL_law_255 : decode cL_law 255 = .ok (.iadd, 1) := by decide +kernel
theorem dL_law_256 : decode cL_law 256 = .ok (.iaload, 1) := by decide +kernel
theorem dL_law_257 : decode cL_law 257 = .ok (.aload_n 0, 1) := by decide +kernel
theorem dL_law_258 : decode cL_law 258 = .ok (.iload_n 3, 1) := by decide +kernel
theorem dL_law_259 : decode cL_law 259 = .ok (.iconst 3, 1) := by decide +kernel
theorem dL_law_260 : decode cL_law 260 = .ok (.iadd, 1) := by decide +kernel
theorem dL_law_261 : decode cL_law 261 = .ok (.iaload, 1) := by decide +kernel
theorem dL_law_262 : decode cL_law 262 = .ok (.aload_n 0, 1) := by decide +kernel
theorem dL_law_263 : decode cL_law 263 = .ok (.iload_n 3, 1) := by decide +kernel
theorem dL_law_264 : decode cL_law 264 = .ok (.iconst 4, 1) := by decide +kernel
theorem dL_law_265 : decode cL_law 265 = .ok (.iadd, 1) := by decide +kernel
theorem dL_law_266 : decode cL_law 266 = .ok (.iaload, 1) := by decide +kernel
theorem dL_law_267 : decode cL_law 267 = .ok (.invokevirtual 27, 3) := by decide +kernel
theorem dL_law_270 : decode cL_law 270 = .ok (.if_icmp .eq 183, 3) := by decide +kernel
theorem dL_law_273 : decode cL_law 273 = .ok (.iconst 0, 1) := by decide +kernel
theorem dL_law_274 : decode cL_law 274 = .ok (.ireturn, 1) := by decide +kernel
theorem dL_law_275 : decode cL_law 275 = .ok (.aload_n 1, 1) := by decide +kernel
theorem dL_law_276 : decode cL_law 276 = .ok (.aload_n 0, 1) := by decide +kernel
theorem dL_law_277 : decode cL_law 277 = .ok (.iload_n 3, 1) := by decide +kernel
theorem dL_law_278 : decode cL_law 278 = .ok (.iconst 1, 1) := by decide +kernel
theorem dL_law_279 : decode cL_law 279 = .ok (.iadd, 1) := by decide +kernel
theorem dL_law_280 : decode cL_law 280 = .ok (.iaload, 1) := by decide +kernel
theorem dL_law_281 : decode cL_law 281 = .ok (.invokevirtual 28, 3) := by decide +kernel
theorem dL_law_284 : decode cL_law 284 = .ok (.aload_n 2, 1) := by decide +kernel
theorem dL_law_285 : decode cL_law 285 = .ok (.aload_n 0, 1) := by decide +kernel
theorem dL_law_286 : decode cL_law 286 = .ok (.iload_n 3, 1) := by decide +kernel
theorem dL_law_287 : decode cL_law 287 = .ok (.iconst 1, 1) := by decide +kernel
theorem dL_law_288 : decode cL_law 288 = .ok (.iadd, 1) := by decide +kernel
theorem dL_law_289 : decode cL_law 289 = .ok (.iaload, 1) := by decide +kernel
theorem dL_law_290 : decode cL_law 290 = .ok (.invokevirtual 32, 3) := by decide +kernel
theorem dL_law_293 : decode cL_law 293 = .ok (.if_icmp .eq 160, 3) := by decide +kernel
theorem dL_law_296 : decode cL_law 296 = .ok (.iconst 0, 1) := by decide +kernel
theorem dL_law_297 : decode cL_law 297 = .ok (.ireturn, 1) := by decide +kernel
theorem dL_law_298 : decode cL_law 298 = .ok (.aload_n 1, 1) := by decide +kernel
theorem dL_law_299 : decode cL_law 299 = .ok (.aload_n 0, 1) := by decide +kernel
theorem dL_law_300 : decode cL_law 300 = .ok (.iload_n 3, 1) := by decide +kernel
theorem dL_law_301 : decode cL_law 301 = .ok (.iconst 1, 1) := by decide +kernel
theorem dL_law_302 : decode cL_law 302 = .ok (.iadd, 1) := by decide +kernel
theorem dL_law_303 : decode cL_law 303 = .ok (.iaload, 1) := by decide +kernel
theorem dL_law_304 : decode cL_law 304 = .ok (.invokevirtual 33, 3) := by decide +kernel
theorem dL_law_307 : decode cL_law 307 = .ok (.aload_n 2, 1) := by decide +kernel
theorem dL_law_308 : decode cL_law 308 = .ok (.aload_n 0, 1) := by decide +kernel
theorem dL_law_309 : decode cL_law 309 = .ok (.iload_n 3, 1) := by decide +kernel
theorem dL_law_310 : decode cL_law 310 = .ok (.iconst 1, 1) := by decide +kernel
theorem dL_law_311 : decode cL_law 311 = .ok (.iadd, 1) := by decide +kernel
theorem dL_law_312 : decode cL_law 312 = .ok (.iaload, 1) := by decide +kernel
theorem dL_law_313 : decode cL_law 313 = .ok (.invokevirtual 36, 3) := by decide +kernel
theorem dL_law_316 : decode cL_law 316 = .ok (.if_icmp .eq 137, 3) := by decide +kernel
theorem dL_law_319 : decode cL_law 319 = .ok (.iconst 0, 1) := by decide +kernel
theorem dL_law_320 : decode cL_law 320 = .ok (.ireturn, 1) := by decide +kernel
theorem dL_law_321 : decode cL_law 321 = .ok (.aload_n 1, 1) := by decide +kernel
theorem dL_law_322 : decode cL_law 322 = .ok (.aload_n 0, 1) := by decide +kernel
theorem dL_law_323 : decode cL_law 323 = .ok (.iload_n 3, 1) := by decide +kernel
theorem dL_law_324 : decode cL_law 324 = .ok (.iconst 1, 1) := by decide +kernel
theorem dL_law_325 : decode cL_law 325 = .ok (.iadd, 1) := by decide +kernel
theorem dL_law_326 : decode cL_law 326 = .ok (.iaload, 1) := by decide +kernel
theorem dL_law_327 : decode cL_law 327 = .ok (.aload_n 0, 1) := by decide +kernel
theorem dL_law_328 : decode cL_law 328 = .ok (.iload_n 3, 1) := by decide +kernel
theorem dL_law_329 : decode cL_law 329 = .ok (.iconst 2, 1) := by decide +kernel
theorem dL_law_330 : decode cL_law 330 = .ok (.iadd, 1) := by decide +kernel
theorem dL_law_331 : decode cL_law 331 = .ok (.iaload, 1) := by decide +kernel
theorem dL_law_332 : decode cL_law 332 = .ok (.aload_n 0, 1) := by decide +kernel
theorem dL_law_333 : decode cL_law 333 = .ok (.iload_n 3, 1) := by decide +kernel
theorem dL_law_334 : decode cL_law 334 = .ok (.iconst 3, 1) := by decide +kernel
theorem dL_law_335 : decode cL_law 335 = .ok (.iadd, 1) := by decide +kernel
theorem dL_law_336 : decode cL_law 336 = .ok (.iaload, 1) := by decide +kernel
theorem dL_law_337 : decode cL_law 337 = .ok (.invokevirtual 37, 3) := by decide +kernel
theorem dL_law_340 : decode cL_law 340 = .ok (.aload_n 2, 1) := by decide +kernel
theorem dL_law_341 : decode cL_law 341 = .ok (.aload_n 0, 1) := by decide +kernel
theorem dL_law_342 : decode cL_law 342 = .ok (.iload_n 3, 1) := by decide +kernel
theorem dL_law_343 : decode cL_law 343 = .ok (.iconst 1, 1) := by decide +kernel
theorem dL_law_344 : decode cL_law 344 = .ok (.iadd, 1) := by decide +kernel
theorem dL_law_345 : decode cL_law 345 = .ok (.iaload, 1) := by decide +kernel
theorem dL_law_346 : decode cL_law 346 = .ok (.aload_n 0, 1) := by decide +kernel
theorem dL_law_347 : decode cL_law 347 = .ok (.iload_n 3, 1) := by decide +kernel
theorem dL_law_348 : decode cL_law 348 = .ok (.iconst 2, 1) := by decide +kernel
theorem dL_law_349 : decode cL_law 349 = .ok (.iadd, 1) := by decide +kernel
theorem dL_law_350 : decode cL_law 350 = .ok (.iaload, 1) := by decide +kernel
theorem dL_law_351 : decode cL_law 351 = .ok (.aload_n 0, 1) := by decide +kernel
theorem dL_law_352 : decode cL_law 352 = .ok (.iload_n 3, 1) := by decide +kernel
theorem dL_law_353 : decode cL_law 353 = .ok (.iconst 3, 1) := by decide +kernel
theorem dL_law_354 : decode cL_law 354 = .ok (.iadd, 1) := by decide +kernel
theorem dL_law_355 : decode cL_law 355 = .ok (.iaload, 1) := by decide +kernel
theorem dL_law_356 : decode cL_law 356 = .ok (.invokevirtual 41, 3) := by decide +kernel
theorem dL_law_359 : decode cL_law 359 = .ok (.if_icmp .eq 94, 3) := by decide +kernel
theorem dL_law_362 : decode cL_law 362 = .ok (.iconst 0, 1) := by decide +kernel
theorem dL_law_363 : decode cL_law 363 = .ok (.ireturn, 1) := by decide +kernel
theorem dL_law_364 : decode cL_law 364 = .ok (.aload_n 1, 1) := by decide +kernel
theorem dL_law_365 : decode cL_law 365 = .ok (.aload_n 0, 1) := by decide +kernel
theorem dL_law_366 : decode cL_law 366 = .ok (.iload_n 3, 1) := by decide +kernel
theorem dL_law_367 : decode cL_law 367 = .ok (.iconst 1, 1) := by decide +kernel
theorem dL_law_368 : decode cL_law 368 = .ok (.iadd, 1) := by decide +kernel
theorem dL_law_369 : decode cL_law 369 = .ok (.iaload, 1) := by decide +kernel
theorem dL_law_370 : decode cL_law 370 = .ok (.invokevirtual 42, 3) := by decide +kernel
theorem dL_law_373 : decode cL_law 373 = .ok (.aload_n 2, 1) := by decide +kernel
theorem dL_law_374 : decode cL_law 374 = .ok (.aload_n 0, 1) := by decide +kernel
theorem dL_law_375 : decode cL_law 375 = .ok (.iload_n 3, 1) := by decide +kernel
theorem dL_law_376 : decode cL_law 376 = .ok (.iconst 1, 1) := by decide +kernel
theorem dL_law_377 : decode cL_law 377 = .ok (.iadd, 1) := by decide +kernel
theorem dL_law_378 : decode cL_law 378 = .ok (.iaload, 1) := by decide +kernel
theorem dL_law_379 : decode cL_law 379 = .ok (.invokevirtual 45, 3) := by decide +kernel
theorem dL_law_382 : decode cL_law 382 = .ok (.if_icmp .eq 71, 3) := by decide +kernel
theorem dL_law_385 : decode cL_law 385 = .ok (.iconst 0, 1) := by decide +kernel
theorem dL_law_386 : decode cL_law 386 = .ok (.ireturn, 1) := by decide +kernel
theorem dL_law_387 : decode cL_law 387 = .ok (.aload_n 1, 1) := by decide +kernel
theorem dL_law_388 : decode cL_law 388 = .ok (.aload_n 0, 1) := by decide +kernel
theorem dL_law_389 : decode cL_law 389 = .ok (.iload_n 3, 1) := by decide +kernel
theorem dL_law_390 : decode cL_law 390 = .ok (.iconst 1, 1) := by decide +kernel
theorem dL_law_391 : decode cL_law 391 = .ok (.iadd, 1) := by decide +kernel
theorem dL_law_392 : decode cL_law 392 = .ok (.iaload, 1) := by decide +kernel
theorem dL_law_393 : decode cL_law 393 = .ok (.aload_n 0, 1) := by decide +kernel
theorem dL_law_394 : decode cL_law 394 = .ok (.iload_n 3, 1) := by decide +kernel
theorem dL_law_395 : decode cL_law 395 = .ok (.iconst 2, 1) := by decide +kernel
theorem dL_law_396 : decode cL_law 396 = .ok (.iadd, 1) := by decide +kernel
theorem dL_law_397 : decode cL_law 397 = .ok (.iaload, 1) := by decide +kernel
theorem dL_law_398 : decode cL_law 398 = .ok (.invokevirtual 46, 3) := by decide +kernel
theorem dL_law_401 : decode cL_law 401 = .ok (.aload_n 2, 1) := by decide +kernel
theorem dL_law_402 : decode cL_law 402 = .ok (.aload_n 0, 1) := by decide +kernel
theorem dL_law_403 : decode cL_law 403 = .ok (.iload_n 3, 1) := by decide +kernel
theorem dL_law_404 : decode cL_law 404 = .ok (.iconst 1, 1) := by decide +kernel
theorem dL_law_405 : decode cL_law 405 = .ok (.iadd, 1) := by decide +kernel
theorem dL_law_406 : decode cL_law 406 = .ok (.iaload, 1) := by decide +kernel
theorem dL_law_407 : decode cL_law 407 = .ok (.aload_n 0, 1) := by decide +kernel
theorem dL_law_408 : decode cL_law 408 = .ok (.iload_n 3, 1) := by decide +kernel
theorem dL_law_409 : decode cL_law 409 = .ok (.iconst 2, 1) := by decide +kernel
theorem dL_law_410 : decode cL_law 410 = .ok (.iadd, 1) := by decide +kernel
theorem dL_law_411 : decode cL_law 411 = .ok (.iaload, 1) := by decide +kernel
theorem dL_law_412 : decode cL_law 412 = .ok (.invokevirtual 50, 3) := by decide +kernel
theorem dL_law_415 : decode cL_law 415 = .ok (.if_icmp .eq 38, 3) := by decide +kernel
theorem dL_law_418 : decode cL_law 418 = .ok (.iconst 0, 1) := by decide +kernel
theorem dL_law_419 : decode cL_law 419 = .ok (.ireturn, 1) := by decide +kernel
theorem dL_law_420 : decode cL_law 420 = .ok (.aload_n 1, 1) := by decide +kernel
theorem dL_law_421 : decode cL_law 421 = .ok (.aload_n 0, 1) := by decide +kernel
theorem dL_law_422 : decode cL_law 422 = .ok (.iload_n 3, 1) := by decide +kernel
theorem dL_law_423 : decode cL_law 423 = .ok (.iconst 1, 1) := by decide +kernel
theorem dL_law_424 : decode cL_law 424 = .ok (.iadd, 1) := by decide +kernel
theorem dL_law_425 : decode cL_law 425 = .ok (.iaload, 1) := by decide +kernel
theorem dL_law_426 : decode cL_law 426 = .ok (.aload_n 0, 1) := by decide +kernel
theorem dL_law_427 : decode cL_law 427 = .ok (.iload_n 3, 1) := by decide +kernel
theorem dL_law_428 : decode cL_law 428 = .ok (.iconst 2, 1) := by decide +kernel
theorem dL_law_429 : decode cL_law 429 = .ok (.iadd, 1) := by decide +kernel
theorem dL_law_430 : decode cL_law 430 = .ok (.iaload, 1) := by decide +kernel
theorem dL_law_431 : decode cL_law 431 = .ok (.invokevirtual 51, 3) := by decide +kernel
theorem dL_law_434 : decode cL_law 434 = .ok (.aload_n 2, 1) := by decide +kernel
theorem dL_law_435 : decode cL_law 435 = .ok (.aload_n 0, 1) := by decide +kernel
theorem dL_law_436 : decode cL_law 436 = .ok (.iload_n 3, 1) := by decide +kernel
theorem dL_law_437 : decode cL_law 437 = .ok (.iconst 1, 1) := by decide +kernel
theorem dL_law_438 : decode cL_law 438 = .ok (.iadd, 1) := by decide +kernel
theorem dL_law_439 : decode cL_law 439 = .ok (.iaload, 1) := by decide +kernel
theorem dL_law_440 : decode cL_law 440 = .ok (.aload_n 0, 1) := by decide +kernel
theorem dL_law_441 : decode cL_law 441 = .ok (.iload_n 3, 1) := by decide +kernel
theorem dL_law_442 : decode cL_law 442 = .ok (.iconst 2, 1) := by decide +kernel
theorem dL_law_443 : decode cL_law 443 = .ok (.iadd, 1) := by decide +kernel
theorem dL_law_444 : decode cL_law 444 = .ok (.iaload, 1) := by decide +kernel
theorem dL_law_445 : decode cL_law 445 = .ok (.invokevirtual 54, 3) := by decide +kernel
theorem dL_law_448 : decode cL_law 448 = .ok (.if_icmp .eq 5, 3) := by decide +kernel
theorem dL_law_451 : decode cL_law 451 = .ok (.iconst 0, 1) := by decide +kernel
theorem dL_law_452 : decode cL_law 452 = .ok (.ireturn, 1) := by decide +kernel
theorem dL_law_453 : decode cL_law 453 = .ok (.iinc 3 7, 3) := by decide +kernel
theorem dL_law_456 : decode cL_law 456 = .ok (.goto (-438), 3) := by decide +kernel
theorem dL_law_459 : decode cL_law 459 = .ok (.iconst 1, 1) := by decide +kernel
theorem dL_law_460 : decode cL_law 460 = .ok (.ireturn, 1) := by decide +kernel
