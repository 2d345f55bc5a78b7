theorem dX0_init_0 : decode cX0_init 0 = .ok (.aload_n 0, 1) := by decide +kernel
theorem dX0_init_1 : decode cX0_init 1 = .ok (.invokespecial 3, 3) := by decide +kernel
theorem dX0_init_4 : decode cX0_init 4 = .ok (.aload_n 0, 1) := by decide +kernel
theorem dX0_init_5 : decode cX0_init 5 = .ok (.iconst 5, 1) := by decide +kernel
theorem dX0_init_6 : decode cX0_init 6 = .ok (.newarray .int, 2) := by decide +kernel
theorem dX0_init_8 : decode cX0_init 8 = .ok (.putfield 9, 3) := by decide +kernel
theorem dX0_init_11 : decode cX0_init 11 = .ok (.aload_n 0, 1) := by decide +kernel
theorem dX0_init_12 : decode cX0_init 12 = .ok (.iconst 5, 1) := by decide +kernel
theorem dX0_init_13 : decode cX0_init 13 = .ok (.newarray .int, 2) := by decide +kernel
theorem dX0_init_15 : decode cX0_init 15 = .ok (.putfield 15, 3) := by decide +kernel
theorem dX0_init_18 : decode cX0_init 18 = .ok (.aload_n 0, 1) := by decide +kernel
theorem dX0_init_19 : decode cX0_init 19 = .ok (.iconst 5, 1) := by decide +kernel
theorem dX0_init_20 : decode cX0_init 20 = .ok (.newarray .int, 2) := by decide +kernel
theorem dX0_init_22 : decode cX0_init 22 = .ok (.putfield 18, 3) := by decide +kernel
theorem dX0_init_25 : decode cX0_init 25 = .ok (.aload_n 0, 1) := by decide +kernel
theorem dX0_init_26 : decode cX0_init 26 = .ok (.iconst 5, 1) := by decide +kernel
theorem dX0_init_27 : decode cX0_init 27 = .ok (.newarray .int, 2) := by decide +kernel
theorem dX0_init_29 : decode cX0_init 29 = .ok (.putfield 21, 3) := by decide +kernel
theorem dX0_init_32 : decode cX0_init 32 = .ok (.return_, 1) := by decide +kernel
theorem dX0_copyFrom_0 : decode cX0_copyFrom 0 = .ok (.aload_n 1, 1) := by decide +kernel
theorem dX0_copyFrom_1 : decode cX0_copyFrom 1 = .ok (.getfield 9, 3) := by decide +kernel
theorem dX0_copyFrom_4 : decode cX0_copyFrom 4 = .ok (.iconst 0, 1) := by decide +kernel
theorem dX0_copyFrom_5 : decode cX0_copyFrom 5 = .ok (.aload_n 0, 1) := by decide +kernel
theorem dX0_copyFrom_6 : decode cX0_copyFrom 6 = .ok (.getfield 9, 3) := by decide +kernel
theorem dX0_copyFrom_9 : decode cX0_copyFrom 9 = .ok (.iconst 0, 1) := by decide +kernel
theorem dX0_copyFrom_10 : decode cX0_copyFrom 10 = .ok (.iconst 5, 1) := by decide +kernel
theorem dX0_copyFrom_11 : decode cX0_copyFrom 11 = .ok (.invokestatic 24, 3) := by decide +kernel
theorem dX0_copyFrom_14 : decode cX0_copyFrom 14 = .ok (.aload_n 1, 1) := by decide +kernel
theorem dX0_copyFrom_15 : decode cX0_copyFrom 15 = .ok (.getfield 21, 3) := by decide +kernel
theorem dX0_copyFrom_18 : decode cX0_copyFrom 18 = .ok (.iconst 0, 1) := by decide +kernel
theorem dX0_copyFrom_19 : decode cX0_copyFrom 19 = .ok (.aload_n 0, 1) := by decide +kernel
theorem dX0_copyFrom_20 : decode cX0_copyFrom 20 = .ok (.getfield 21, 3) := by decide +kernel
theorem dX0_copyFrom_23 : decode cX0_copyFrom 23 = .ok (.iconst 0, 1) := by decide +kernel
theorem dX0_copyFrom_24 : decode cX0_copyFrom 24 = .ok (.iconst 5, 1) := by decide +kernel
theorem dX0_copyFrom_25 : decode cX0_copyFrom 25 = .ok (.invokestatic 24, 3) := by decide +kernel
theorem dX0_copyFrom_28 : decode cX0_copyFrom 28 = .ok (.aload_n 1, 1) := by decide +kernel
theorem dX0_copyFrom_29 : decode cX0_copyFrom 29 = .ok (.getfield 15, 3) := by decide +kernel
theorem dX0_copyFrom_32 : decode cX0_copyFrom 32 = .ok (.iconst 0, 1) := by decide +kernel
theorem dX0_copyFrom_33 : decode cX0_copyFrom 33 = .ok (.aload_n 0, 1) := by decide +kernel
theorem dX0_copyFrom_34 : decode cX0_copyFrom 34 = .ok (.getfield 15, 3) := by decide +kernel
theorem dX0_copyFrom_37 : decode cX0_copyFrom 37 = .ok (.iconst 0, 1) := by decide +kernel
theorem dX0_copyFrom_38 : decode cX0_copyFrom 38 = .ok (.iconst 5, 1) := by decide +kernel
theorem dX0_copyFrom_39 : decode cX0_copyFrom 39 = .ok (.invokestatic 24, 3) := by decide +kernel
theorem dX0_copyFrom_42 : decode cX0_copyFrom 42 = .ok (.aload_n 1, 1) := by decide +kernel
theorem dX0_copyFrom_43 : decode cX0_copyFrom 43 = .ok (.getfield 18, 3) := by decide +kernel
theorem dX0_copyFrom_46 : decode cX0_copyFrom 46 = .ok (.iconst 0, 1) := by decide +kernel
theorem dX0_copyFrom_47 : decode cX0_copyFrom 47 = .ok (.aload_n 0, 1) := by decide +kernel
theorem dX0_copyFrom_48 : decode cX0_copyFrom 48 = .ok (.getfield 18, 3) := by decide +kernel
theorem dX0_copyFrom_51 : decode cX0_copyFrom 51 = .ok (.iconst 0, 1) := by decide +kernel
theorem dX0_copyFrom_52 : decode cX0_copyFrom 52 = .ok (.iconst 5, 1) := by decide +kernel
theorem dX0_copyFrom_53 : decode cX0_copyFrom 53 = .ok (.invokestatic 24, 3) := by decide +kernel
theorem dX0_copyFrom_56 : decode cX0_copyFrom 56 = .ok (.return_, 1) := by decide +kernel
theorem dX0_begin_0 : decode cX0_begin 0 = .ok (.aload_n 0, 1) := by decide +kernel
theorem dX0_begin_1 : decode cX0_begin 1 = .ok (.getfield 9, 3) := by decide +kernel
theorem dX0_begin_4 : decode cX0_begin 4 = .ok (.iconst 0, 1) := by decide +kernel
theorem dX0_begin_5 : decode cX0_begin 5 = .ok (.invokestatic 30, 3) := by decide +kernel
theorem dX0_begin_8 : decode cX0_begin 8 = .ok (.aload_n 0, 1) := by decide +kernel
theorem dX0_begin_9 : decode cX0_begin 9 = .ok (.getfield 21, 3) := by decide +kernel
theorem dX0_begin_12 : decode cX0_begin 12 = .ok (.iconst 0, 1) := by decide +kernel
theorem dX0_begin_13 : decode cX0_begin 13 = .ok (.invokestatic 30, 3) := by decide +kernel
theorem dX0_begin_16 : decode cX0_begin 16 = .ok (.aload_n 0, 1) := by decide +kernel
theorem dX0_begin_17 : decode cX0_begin 17 = .ok (.getfield 15, 3) := by decide +kernel
theorem dX0_begin_20 : decode cX0_begin 20 = .ok (.iconst (-1), 1) := by decide +kernel
theorem dX0_begin_21 : decode cX0_begin 21 = .ok (.invokestatic 30, 3) := by decide +kernel
theorem dX0_begin_24 : decode cX0_begin 24 = .ok (.aload_n 1, 1) := by decide +kernel
theorem dX0_begin_25 : decode cX0_begin 25 = .ok (.getfield 36, 3) := by decide +kernel
theorem dX0_begin_28 : decode cX0_begin 28 = .ok (.iconst 0, 1) := by decide +kernel
theorem dX0_begin_29 : decode cX0_begin 29 = .ok (.aload_n 0, 1) := by decide +kernel
theorem dX0_begin_30 : decode cX0_begin 30 = .ok (.getfield 18, 3) := by decide +kernel
theorem dX0_begin_33 : decode cX0_begin 33 = .ok (.iconst 0, 1) := by decide +kernel
theorem dX0_begin_34 : decode cX0_begin 34 = .ok (.iconst 5, 1) := by decide +kernel
theorem dX0_begin_35 : decode cX0_begin 35 = .ok (.invokestatic 24, 3) := by decide +kernel
theorem dX0_begin_38 : decode cX0_begin 38 = .ok (.return_, 1) := by decide +kernel
theorem dX0_lay_0 : decode cX0_lay 0 = .ok (.aload_n 0, 1) := by decide +kernel
theorem dX0_lay_1 : decode cX0_lay 1 = .ok (.getfield 9, 3) := by decide +kernel
theorem dX0_lay_4 : decode cX0_lay 4 = .ok (.iload_n 2, 1) := by decide +kernel
theorem dX0_lay_5 : decode cX0_lay 5 = .ok (.iload 5, 2) := by decide +kernel
theorem dX0_lay_7 : decode cX0_lay 7 = .ok (.iastore, 1) := by decide +kernel
theorem dX0_lay_8 : decode cX0_lay 8 = .ok (.aload_n 0, 1) := by decide +kernel
theorem dX0_lay_9 : decode cX0_lay 9 = .ok (.getfield 21, 3) := by decide +kernel
theorem dX0_lay_12 : decode cX0_lay 12 = .ok (.iload_n 2, 1) := by decide +kernel
theorem dX0_lay_13 : decode cX0_lay 13 = .ok (.iload 5, 2) := by decide +kernel
theorem dX0_lay_15 : decode cX0_lay 15 = .ok (.aload_n 1, 1) := by decide +kernel
theorem dX0_lay_16 : decode cX0_lay 16 = .ok (.getfield 39, 3) := by decide +kernel
theorem dX0_lay_19 : decode cX0_lay 19 = .ok (.iload 4, 2) := by decide +kernel
theorem dX0_lay_21 : decode cX0_lay 21 = .ok (.iaload, 1) := by decide +kernel
theorem dX0_lay_22 : decode cX0_lay 22 = .ok (.imul, 1) := by decide +kernel
theorem dX0_lay_23 : decode cX0_lay 23 = .ok (.iastore, 1) := by decide +kernel
theorem dX0_lay_24 : decode cX0_lay 24 = .ok (.aload_n 0, 1) := by decide +kernel
theorem dX0_lay_25 : decode cX0_lay 25 = .ok (.getfield 15, 3) := by decide +kernel
theorem dX0_lay_28 : decode cX0_lay 28 = .ok (.iload_n 2, 1) := by decide +kernel
theorem dX0_lay_29 : decode cX0_lay 29 = .ok (.iload_n 3, 1) := by decide +kernel
theorem dX0_lay_30 : decode cX0_lay 30 = .ok (.iastore, 1) := by decide +kernel
theorem dX0_lay_31 : decode cX0_lay 31 = .ok (.aload_n 0, 1) := by decide +kernel
theorem dX0_lay_32 : decode cX0_lay 32 = .ok (.getfield 18, 3) := by decide +kernel
theorem dX0_lay_35 : decode cX0_lay 35 = .ok (.iload_n 2, 1) := by decide +kernel
theorem dX0_lay_36 : decode cX0_lay 36 = .ok (.iload 4, 2) := by decide +kernel
theorem dX0_lay_38 : decode cX0_lay 38 = .ok (.iastore, 1) := by decide +kernel
theorem dX0_lay_39 : decode cX0_lay 39 = .ok (.return_, 1) := by decide +kernel
theorem dX0_takeOut_0 : decode cX0_takeOut 0 = .ok (.aload_n 0, 1) := by decide +kernel
theorem dX0_takeOut_1 : decode cX0_takeOut 1 = .ok (.getfield 9, 3) := by decide +kernel
theorem dX0_takeOut_4 : decode cX0_takeOut 4 = .ok (.iload_n 1, 1) := by decide +kernel
theorem dX0_takeOut_5 : decode cX0_takeOut 5 = .ok (.iconst 0, 1) := by decide +kernel
theorem dX0_takeOut_6 : decode cX0_takeOut 6 = .ok (.iastore, 1) := by decide +kernel
theorem dX0_takeOut_7 : decode cX0_takeOut 7 = .ok (.aload_n 0, 1) := by decide +kernel
theorem dX0_takeOut_8 : decode cX0_takeOut 8 = .ok (.getfield 21, 3) := by decide +kernel
theorem dX0_takeOut_11 : decode cX0_takeOut 11 = .ok (.iload_n 1, 1) := by decide +kernel
theorem dX0_takeOut_12 : decode cX0_takeOut 12 = .ok (.iconst 0, 1) := by decide +kernel
theorem dX0_takeOut_13 : decode cX0_takeOut 13 = .ok (.iastore, 1) := by decide +kernel
theorem dX0_takeOut_14 : decode cX0_takeOut 14 = .ok (.aload_n 0, 1) := by decide +kernel
theorem dX0_takeOut_15 : decode cX0_takeOut 15 = .ok (.getfield 15, 3) := by decide +kernel
theorem dX0_takeOut_18 : decode cX0_takeOut 18 = .ok (.iload_n 1, 1) := by decide +kernel
theorem dX0_takeOut_19 : decode cX0_takeOut 19 = .ok (.iconst (-1), 1) := by decide +kernel
theorem dX0_takeOut_20 : decode cX0_takeOut 20 = .ok (.iastore, 1) := by decide +kernel
theorem dX0_takeOut_21 : decode cX0_takeOut 21 = .ok (.return_, 1) := by decide +kernel
theorem dX0_takeOutAll_0 : decode cX0_takeOutAll 0 = .ok (.iconst 0, 1) := by decide +kernel
theorem dX0_takeOutAll_1 : decode cX0_takeOutAll 1 = .ok (.istore_n 2, 1) := by decide +kernel
theorem dX0_takeOutAll_2 : decode cX0_takeOutAll 2 = .ok (.iload_n 2, 1) := by decide +kernel
theorem dX0_takeOutAll_3 : decode cX0_takeOutAll 3 = .ok (.iconst 5, 1) := by decide +kernel
theorem dX0_takeOutAll_4 : decode cX0_takeOutAll 4 = .ok (.if_icmp .ge 22, 3) := by decide +kernel
theorem dX0_takeOutAll_7 : decode cX0_takeOutAll 7 = .ok (.iload_n 1, 1) := by decide +kernel
theorem dX0_takeOutAll_8 : decode cX0_takeOutAll 8 = .ok (.iload_n 2, 1) := by decide +kernel
theorem dX0_takeOutAll_9 : decode cX0_takeOutAll 9 = .ok (.invokestatic 42, 3) := by decide +kernel
theorem dX0_takeOutAll_12 : decode cX0_takeOutAll 12 = .ok (.ifCond .eq 8, 3) := by decide +kernel
theorem dX0_takeOutAll_15 : decode cX0_takeOutAll 15 = .ok (.aload_n 0, 1) := by decide +kernel
theorem dX0_takeOutAll_16 : decode cX0_takeOutAll 16 = .ok (.iload_n 2, 1) := by decide +kernel
theorem dX0_takeOutAll_17 : decode cX0_takeOutAll 17 = .ok (.invokevirtual 46, 3) := by decide +kernel
theorem dX0_takeOutAll_20 : decode cX0_takeOutAll 20 = .ok (.iinc 2 1, 3) := by decide +kernel
theorem dX0_takeOutAll_23 : decode cX0_takeOutAll 23 = .ok (.goto (-21), 3) := by decide +kernel
theorem dX0_takeOutAll_26 : decode cX0_takeOutAll 26 = .ok (.return_, 1) := by decide +kernel
theorem dX0_loaded_0 : decode cX0_loaded 0 = .ok (.iconst 0, 1) := by decide +kernel
theorem dX0_loaded_1 : decode cX0_loaded 1 = .ok (.istore_n 2, 1) := by decide +kernel
theorem dX0_loaded_2 : decode cX0_loaded 2 = .ok (.iconst 0, 1) := by decide +kernel
theorem dX0_loaded_3 : decode cX0_loaded 3 = .ok (.istore_n 3, 1) := by decide +kernel
theorem dX0_loaded_4 : decode cX0_loaded 4 = .ok (.iload_n 3, 1) := by decide +kernel
theorem dX0_loaded_5 : decode cX0_loaded 5 = .ok (.iconst 5, 1) := by decide +kernel
theorem dX0_loaded_6 : decode cX0_loaded 6 = .ok (.if_icmp .ge 28, 3) := by decide +kernel
theorem dX0_loaded_9 : decode cX0_loaded 9 = .ok (.aload_n 0, 1) := by decide +kernel
theorem dX0_loaded_10 : decode cX0_loaded 10 = .ok (.getfield 15, 3) := by decide +kernel
theorem dX0_loaded_13 : decode cX0_loaded 13 = .ok (.iload_n 3, 1) := by decide +kernel
theorem dX0_loaded_14 : decode cX0_loaded 14 = .ok (.iaload, 1) := by decide +kernel
theorem dX0_loaded_15 : decode cX0_loaded 15 = .ok (.iload_n 1, 1) := by decide +kernel
theorem dX0_loaded_16 : decode cX0_loaded 16 = .ok (.if_icmp .ne 12, 3) := by decide +kernel
theorem dX0_loaded_19 : decode cX0_loaded 19 = .ok (.iload_n 2, 1) := by decide +kernel
theorem dX0_loaded_20 : decode cX0_loaded 20 = .ok (.aload_n 0, 1) := by decide +kernel
theorem dX0_loaded_21 : decode cX0_loaded 21 = .ok (.getfield 9, 3) := by decide +kernel
theorem dX0_loaded_24 : decode cX0_loaded 24 = .ok (.iload_n 3, 1) := by decide +kernel
theorem dX0_loaded_25 : decode cX0_loaded 25 = .ok (.iaload, 1) := by decide +kernel
theorem dX0_loaded_26 : decode cX0_loaded 26 = .ok (.iadd, 1) := by decide +kernel
theorem dX0_loaded_27 : decode cX0_loaded 27 = .ok (.istore_n 2, 1) := by decide +kernel
theorem dX0_loaded_28 : decode cX0_loaded 28 = .ok (.iinc 3 1, 3) := by decide +kernel
theorem dX0_loaded_31 : decode cX0_loaded 31 = .ok (.goto (-27), 3) := by decide +kernel
theorem dX0_loaded_34 : decode cX0_loaded 34 = .ok (.iload_n 2, 1) := by decide +kernel
theorem dX0_loaded_35 : decode cX0_loaded 35 = .ok (.ireturn, 1) := by decide +kernel
theorem dX0_partsOf_0 : decode cX0_partsOf 0 = .ok (.iconst 0, 1) := by decide +kernel
theorem dX0_partsOf_1 : decode cX0_partsOf 1 = .ok (.istore_n 2, 1) := by decide +kernel
theorem dX0_partsOf_2 : decode cX0_partsOf 2 = .ok (.iconst 0, 1) := by decide +kernel
theorem dX0_partsOf_3 : decode cX0_partsOf 3 = .ok (.istore_n 3, 1) := by decide +kernel
theorem dX0_partsOf_4 : decode cX0_partsOf 4 = .ok (.iload_n 3, 1) := by decide +kernel
theorem dX0_partsOf_5 : decode cX0_partsOf 5 = .ok (.iconst 5, 1) := by decide +kernel
theorem dX0_partsOf_6 : decode cX0_partsOf 6 = .ok (.if_icmp .ge 25, 3) := by decide +kernel
theorem dX0_partsOf_9 : decode cX0_partsOf 9 = .ok (.aload_n 0, 1) := by decide +kernel
theorem dX0_partsOf_10 : decode cX0_partsOf 10 = .ok (.getfield 15, 3) := by decide +kernel
theorem dX0_partsOf_13 : decode cX0_partsOf 13 = .ok (.iload_n 3, 1) := by decide +kernel
theorem dX0_partsOf_14 : decode cX0_partsOf 14 = .ok (.iaload, 1) := by decide +kernel
theorem dX0_partsOf_15 : decode cX0_partsOf 15 = .ok (.iload_n 1, 1) := by decide +kernel
theorem dX0_partsOf_16 : decode cX0_partsOf 16 = .ok (.if_icmp .ne 9, 3) := by decide +kernel
theorem dX0_partsOf_19 : decode cX0_partsOf 19 = .ok (.iload_n 2, 1) := by decide +kernel
theorem dX0_partsOf_20 : decode cX0_partsOf 20 = .ok (.iconst 1, 1) := by decide +kernel
theorem dX0_partsOf_21 : decode cX0_partsOf 21 = .ok (.iload_n 3, 1) := by decide +kernel
theorem dX0_partsOf_22 : decode cX0_partsOf 22 = .ok (.ishl, 1) := by decide +kernel
theorem dX0_partsOf_23 : decode cX0_partsOf 23 = .ok (.ior, 1) := by decide +kernel
theorem dX0_partsOf_24 : decode cX0_partsOf 24 = .ok (.istore_n 2, 1) := by decide +kernel
theorem dX0_partsOf_25 : decode cX0_partsOf 25 = .ok (.iinc 3 1, 3) := by decide +kernel
theorem dX0_partsOf_28 : decode cX0_partsOf 28 = .ok (.goto (-24), 3) := by decide +kernel
theorem dX0_partsOf_31 : decode cX0_partsOf 31 = .ok (.iload_n 2, 1) := by decide +kernel
theorem dX0_partsOf_32 : decode cX0_partsOf 32 = .ok (.ireturn, 1) := by decide +kernel
theorem dX0_standing_0 : decode cX0_standing 0 = .ok (.aload_n 0, 1) := by decide +kernel
theorem dX0_standing_1 : decode cX0_standing 1 = .ok (.aload_n 1, 1) := by decide +kernel
theorem dX0_standing_2 : decode cX0_standing 2 = .ok (.iload_n 2, 1) := by decide +kernel
theorem dX0_standing_3 : decode cX0_standing 3 = .ok (.invokevirtual 50, 3) := by decide +kernel
theorem dX0_standing_6 : decode cX0_standing 6 = .ok (.ifCond .eq 5, 3) := by decide +kernel
theorem dX0_standing_9 : decode cX0_standing 9 = .ok (.iconst 1, 1) := by decide +kernel
theorem dX0_standing_10 : decode cX0_standing 10 = .ok (.ireturn, 1) := by decide +kernel
theorem dX0_standing_11 : decode cX0_standing 11 = .ok (.aload_n 1, 1) := by decide +kernel
theorem dX0_standing_12 : decode cX0_standing 12 = .ok (.getfield 54, 3) := by decide +kernel
theorem dX0_standing_15 : decode cX0_standing 15 = .ok (.iconst 0, 1) := by decide +kernel
theorem dX0_standing_16 : decode cX0_standing 16 = .ok (.iaload, 1) := by decide +kernel
theorem dX0_standing_17 : decode cX0_standing 17 = .ok (.istore_n 3, 1) := by decide +kernel
theorem dX0_standing_18 : decode cX0_standing 18 = .ok (.aload_n 0, 1) := by decide +kernel
theorem dX0_standing_19 : decode cX0_standing 19 = .ok (.aload_n 1, 1) := by decide +kernel
theorem dX0_standing_20 : decode cX0_standing 20 = .ok (.iload_n 2, 1) := by decide +kernel
theorem dX0_standing_21 : decode cX0_standing 21 = .ok (.invokevirtual 57, 3) := by decide +kernel
theorem dX0_standing_24 : decode cX0_standing 24 = .ok (.istore 4, 2) := by decide +kernel
theorem dX0_standing_26 : decode cX0_standing 26 = .ok (.iload 4, 2) := by decide +kernel
theorem dX0_standing_28 : decode cX0_standing 28 = .ok (.aload_n 1, 1) := by decide +kernel
theorem dX0_standing_29 : decode cX0_standing 29 = .ok (.getfield 54, 3) := by decide +kernel
theorem dX0_standing_32 : decode cX0_standing 32 = .ok (.iconst 4, 1) := by decide +kernel
theorem dX0_standing_33 : decode cX0_standing 33 = .ok (.iaload, 1) := by decide +kernel
theorem dX0_standing_34 : decode cX0_standing 34 = .ok (.iload_n 3, 1) := by decide +kernel
theorem dX0_standing_35 : decode cX0_standing 35 = .ok (.imul, 1) := by decide +kernel
theorem dX0_standing_36 : decode cX0_standing 36 = .ok (.if_icmp .le 5, 3) := by decide +kernel
theorem dX0_standing_39 : decode cX0_standing 39 = .ok (.iconst 2, 1) := by decide +kernel
theorem dX0_standing_40 : decode cX0_standing 40 = .ok (.ireturn, 1) := by decide +kernel
theorem dX0_standing_41 : decode cX0_standing 41 = .ok (.iload 4, 2) := by decide +kernel
theorem dX0_standing_43 : decode cX0_standing 43 = .ok (.aload_n 1, 1) := by decide +kernel
theorem dX0_standing_44 : decode cX0_standing 44 = .ok (.getfield 54, 3) := by decide +kernel
theorem dX0_standing_47 : decode cX0_standing 47 = .ok (.iconst 3, 1) := by decide +kernel
theorem dX0_standing_48 : decode cX0_standing 48 = .ok (.iaload, 1) := by decide +kernel
theorem dX0_standing_49 : decode cX0_standing 49 = .ok (.iload_n 3, 1) := by decide +kernel
theorem dX0_standing_50 : decode cX0_standing 50 = .ok (.imul, 1) := by decide +kernel
theorem dX0_standing_51 : decode cX0_standing 51 = .ok (.if_icmp .ge 5, 3) := by decide +kernel
theorem dX0_standing_54 : decode cX0_standing 54 = .ok (.iconst 3, 1) := by decide +kernel
theorem dX0_standing_55 : decode cX0_standing 55 = .ok (.ireturn, 1) := by decide +kernel
theorem dX0_standing_56 : decode cX0_standing 56 = .ok (.aload_n 0, 1) := by decide +kernel
theorem dX0_standing_57 : decode cX0_standing 57 = .ok (.aload_n 1, 1) := by decide +kernel
theorem dX0_standing_58 : decode cX0_standing 58 = .ok (.iload_n 2, 1) := by decide +kernel
theorem dX0_standing_59 : decode cX0_standing 59 = .ok (.invokevirtual 61, 3) := by decide +kernel
theorem dX0_standing_62 : decode cX0_standing 62 = .ok (.aload_n 1, 1) := by decide +kernel
theorem dX0_standing_63 : decode cX0_standing 63 = .ok (.getfield 54, 3) := by decide +kernel
theorem dX0_standing_66 : decode cX0_standing 66 = .ok (.iconst 5, 1) := by decide +kernel
theorem dX0_standing_67 : decode cX0_standing 67 = .ok (.iaload, 1) := by decide +kernel
theorem dX0_standing_68 : decode cX0_standing 68 = .ok (.iload_n 3, 1) := by decide +kernel
theorem dX0_standing_69 : decode cX0_standing 69 = .ok (.imul, 1) := by decide +kernel
theorem dX0_standing_70 : decode cX0_standing 70 = .ok (.if_icmp .le 7, 3) := by decide +kernel
theorem dX0_standing_73 : decode cX0_standing 73 = .ok (.iconst 4, 1) := by decide +kernel
theorem dX0_standing_74 : decode cX0_standing 74 = .ok (.goto 4, 3) := by decide +kernel
theorem dX0_standing_77 : decode cX0_standing 77 = .ok (.iconst 0, 1) := by decide +kernel
theorem dX0_standing_78 : decode cX0_standing 78 = .ok (.ireturn, 1) := by decide +kernel
theorem dX0_frontLoad_0 : decode cX0_frontLoad 0 = .ok (.aload_n 1, 1) := by decide +kernel
theorem dX0_frontLoad_1 : decode cX0_frontLoad 1 = .ok (.getfield 54, 3) := by decide +kernel
theorem dX0_frontLoad_4 : decode cX0_frontLoad 4 = .ok (.iconst 0, 1) := by decide +kernel
theorem dX0_frontLoad_5 : decode cX0_frontLoad 5 = .ok (.iaload, 1) := by decide +kernel
theorem dX0_frontLoad_6 : decode cX0_frontLoad 6 = .ok (.istore_n 3, 1) := by decide +kernel
theorem dX0_frontLoad_7 : decode cX0_frontLoad 7 = .ok (.aload_n 1, 1) := by decide +kernel
theorem dX0_frontLoad_8 : decode cX0_frontLoad 8 = .ok (.getfield 54, 3) := by decide +kernel
theorem dX0_frontLoad_11 : decode cX0_frontLoad 11 = .ok (.iconst 1, 1) := by decide +kernel
theorem dX0_frontLoad_12 : decode cX0_frontLoad 12 = .ok (.iaload, 1) := by decide +kernel
theorem dX0_frontLoad_13 : decode cX0_frontLoad 13 = .ok (.iload_n 3, 1) := by decide +kernel
theorem dX0_frontLoad_14 : decode cX0_frontLoad 14 = .ok (.imul, 1) := by decide +kernel
theorem dX0_frontLoad_15 : decode cX0_frontLoad 15 = .ok (.istore 4, 2) := by decide +kernel
theorem dX0_frontLoad_17 : decode cX0_frontLoad 17 = .ok (.iconst 0, 1) := by decide +kernel
theorem dX0_frontLoad_18 : decode cX0_frontLoad 18 = .ok (.istore 5, 2) := by decide +kernel
theorem dX0_frontLoad_20 : decode cX0_frontLoad 20 = .ok (.iload 5, 2) := by decide +kernel
theorem dX0_frontLoad_22 : decode cX0_frontLoad 22 = .ok (.aload_n 1, 1) := by decide +kernel
theorem dX0_frontLoad_23 : decode cX0_frontLoad 23 = .ok (.getfield 64, 3) := by decide +kernel
theorem dX0_frontLoad_26 : decode cX0_frontLoad 26 = .ok (.if_icmp .ge 44, 3) := by decide +kernel
theorem dX0_frontLoad_29 : decode cX0_frontLoad 29 = .ok (.iload 4, 2) := by decide +kernel
theorem dX0_frontLoad_31 : decode cX0_frontLoad 31 = .ok (.iload_n 2, 1) := by decide +kernel
theorem dX0_frontLoad_32 : decode cX0_frontLoad 32 = .ok (.iload 5, 2) := by decide +kernel
theorem dX0_frontLoad_34 : decode cX0_frontLoad 34 = .ok (.invokestatic 42, 3) := by decide +kernel
theorem dX0_frontLoad_37 : decode cX0_frontLoad 37 = .ok (.ifCond .eq 7, 3) := by decide +kernel
theorem dX0_frontLoad_40 : decode cX0_frontLoad 40 = .ok (.iconst 0, 1) := by decide +kernel
theorem dX0_frontLoad_41 : decode cX0_frontLoad 41 = .ok (.goto 20, 3) := by decide +kernel
theorem dX0_frontLoad_44 : decode cX0_frontLoad 44 = .ok (.aload_n 0, 1) := by decide +kernel
theorem dX0_frontLoad_45 : decode cX0_frontLoad 45 = .ok (.getfield 21, 3) := by decide +kernel
theorem dX0_frontLoad_48 : decode cX0_frontLoad 48 = .ok (.iload 5, 2) := by decide +kernel
theorem dX0_frontLoad_50 : decode cX0_frontLoad 50 = .ok (.iaload, 1) := by decide +kernel
theorem dX0_frontLoad_51 : decode cX0_frontLoad 51 = .ok (.iload_n 3, 1) := by decide +kernel
theorem dX0_frontLoad_52 : decode cX0_frontLoad 52 = .ok (.aload_n 1, 1) := by decide +kernel
theorem dX0_frontLoad_53 : decode cX0_frontLoad 53 = .ok (.getfield 68, 3) := by decide +kernel
theorem dX0_frontLoad_56 : decode cX0_frontLoad 56 = .ok (.iload 5, 2) := by decide +kernel
theorem dX0_frontLoad_58 : decode cX0_frontLoad 58 = .ok (.iaload, 1) := by decide +kernel
theorem dX0_frontLoad_59 : decode cX0_frontLoad 59 = .ok (.isub, 1) := by decide +kernel
theorem dX0_frontLoad_60 : decode cX0_frontLoad 60 = .ok (.imul, 1) := by decide +kernel
theorem dX0_frontLoad_61 : decode cX0_frontLoad 61 = .ok (.iadd, 1) := by decide +kernel
theorem dX0_frontLoad_62 : decode cX0_frontLoad 62 = .ok (.istore 4, 2) := by decide +kernel
theorem dX0_frontLoad_64 : decode cX0_frontLoad 64 = .ok (.iinc 5 1, 3) := by decide +kernel
theorem dX0_frontLoad_67 : decode cX0_frontLoad 67 = .ok (.goto (-47), 3) := by decide +kernel
theorem dX0_frontLoad_70 : decode cX0_frontLoad 70 = .ok (.iload 4, 2) := by decide +kernel
theorem dX0_frontLoad_72 : decode cX0_frontLoad 72 = .ok (.ireturn, 1) := by decide +kernel
theorem dX0_rearLoad_0 : decode cX0_rearLoad 0 = .ok (.aload_n 1, 1) := by decide +kernel
theorem dX0_rearLoad_1 : decode cX0_rearLoad 1 = .ok (.getfield 54, 3) := by decide +kernel
theorem dX0_rearLoad_4 : decode cX0_rearLoad 4 = .ok (.iconst 2, 1) := by decide +kernel
theorem dX0_rearLoad_5 : decode cX0_rearLoad 5 = .ok (.iaload, 1) := by decide +kernel
theorem dX0_rearLoad_6 : decode cX0_rearLoad 6 = .ok (.aload_n 1, 1) := by decide +kernel
theorem dX0_rearLoad_7 : decode cX0_rearLoad 7 = .ok (.getfield 54, 3) := by decide +kernel
theorem dX0_rearLoad_10 : decode cX0_rearLoad 10 = .ok (.iconst 0, 1) := by decide +kernel
theorem dX0_rearLoad_11 : decode cX0_rearLoad 11 = .ok (.iaload, 1) := by decide +kernel
theorem dX0_rearLoad_12 : decode cX0_rearLoad 12 = .ok (.imul, 1) := by decide +kernel
theorem dX0_rearLoad_13 : decode cX0_rearLoad 13 = .ok (.istore_n 3, 1) := by decide +kernel
theorem dX0_rearLoad_14 : decode cX0_rearLoad 14 = .ok (.iconst 0, 1) := by decide +kernel
theorem dX0_rearLoad_15 : decode cX0_rearLoad 15 = .ok (.istore 4, 2) := by decide +kernel
theorem dX0_rearLoad_17 : decode cX0_rearLoad 17 = .ok (.iload 4, 2) := by decide +kernel
theorem dX0_rearLoad_19 : decode cX0_rearLoad 19 = .ok (.aload_n 1, 1) := by decide +kernel
theorem dX0_rearLoad_20 : decode cX0_rearLoad 20 = .ok (.getfield 64, 3) := by decide +kernel
theorem dX0_rearLoad_23 : decode cX0_rearLoad 23 = .ok (.if_icmp .ge 40, 3) := by decide +kernel
theorem dX0_rearLoad_26 : decode cX0_rearLoad 26 = .ok (.iload_n 3, 1) := by decide +kernel
theorem dX0_rearLoad_27 : decode cX0_rearLoad 27 = .ok (.iload_n 2, 1) := by decide +kernel
theorem dX0_rearLoad_28 : decode cX0_rearLoad 28 = .ok (.iload 4, 2) := by decide +kernel
theorem dX0_rearLoad_30 : decode cX0_rearLoad 30 = .ok (.invokestatic 42, 3) := by decide +kernel
theorem dX0_rearLoad_33 : decode cX0_rearLoad 33 = .ok (.ifCond .eq 7, 3) := by decide +kernel
theorem dX0_rearLoad_36 : decode cX0_rearLoad 36 = .ok (.iconst 0, 1) := by decide +kernel
theorem dX0_rearLoad_37 : decode cX0_rearLoad 37 = .ok (.goto 18, 3) := by decide +kernel
theorem dX0_rearLoad_40 : decode cX0_rearLoad 40 = .ok (.aload_n 0, 1) := by decide +kernel
theorem dX0_rearLoad_41 : decode cX0_rearLoad 41 = .ok (.getfield 21, 3) := by decide +kernel
theorem dX0_rearLoad_44 : decode cX0_rearLoad 44 = .ok (.iload 4, 2) := by decide +kernel
theorem dX0_rearLoad_46 : decode cX0_rearLoad 46 = .ok (.iaload, 1) := by decide +kernel
theorem dX0_rearLoad_47 : decode cX0_rearLoad 47 = .ok (.aload_n 1, 1) := by decide +kernel
theorem dX0_rearLoad_48 : decode cX0_rearLoad 48 = .ok (.getfield 68, 3) := by decide +kernel
theorem dX0_rearLoad_51 : decode cX0_rearLoad 51 = .ok (.iload 4, 2) := by decide +kernel
theorem dX0_rearLoad_53 : decode cX0_rearLoad 53 = .ok (.iaload, 1) := by decide +kernel
theorem dX0_rearLoad_54 : decode cX0_rearLoad 54 = .ok (.imul, 1) := by decide +kernel
theorem dX0_rearLoad_55 : decode cX0_rearLoad 55 = .ok (.iadd, 1) := by decide +kernel
theorem dX0_rearLoad_56 : decode cX0_rearLoad 56 = .ok (.istore_n 3, 1) := by decide +kernel
theorem dX0_rearLoad_57 : decode cX0_rearLoad 57 = .ok (.iinc 4 1, 3) := by decide +kernel
theorem dX0_rearLoad_60 : decode cX0_rearLoad 60 = .ok (.goto (-43), 3) := by decide +kernel
theorem dX0_rearLoad_63 : decode cX0_rearLoad 63 = .ok (.iload_n 3, 1) := by decide +kernel
theorem dX0_rearLoad_64 : decode cX0_rearLoad 64 = .ok (.ireturn, 1) := by decide +kernel
theorem dX0_surges_0 : decode cX0_surges 0 = .ok (.iconst 0, 1) := by decide +kernel
theorem dX0_surges_1 : decode cX0_surges 1 = .ok (.istore_n 3, 1) := by decide +kernel
theorem dX0_surges_2 : decode cX0_surges 2 = .ok (.iload_n 3, 1) := by decide +kernel
theorem dX0_surges_3 : decode cX0_surges 3 = .ok (.aload_n 1, 1) := by decide +kernel
theorem dX0_surges_4 : decode cX0_surges 4 = .ok (.getfield 64, 3) := by decide +kernel
theorem dX0_surges_7 : decode cX0_surges 7 = .ok (.if_icmp .ge 87, 3) := by decide +kernel
theorem dX0_surges_10 : decode cX0_surges 10 = .ok (.aload_n 0, 1) := by decide +kernel
theorem dX0_surges_11 : decode cX0_surges 11 = .ok (.getfield 9, 3) := by decide +kernel
theorem dX0_surges_14 : decode cX0_surges 14 = .ok (.iload_n 3, 1) := by decide +kernel
theorem dX0_surges_15 : decode cX0_surges 15 = .ok (.iaload, 1) := by decide +kernel
theorem dX0_surges_16 : decode cX0_surges 16 = .ok (.bipush 100, 2) := by decide +kernel
theorem dX0_surges_18 : decode cX0_surges 18 = .ok (.imul, 1) := by decide +kernel
theorem dX0_surges_19 : decode cX0_surges 19 = .ok (.istore 4, 2) := by decide +kernel
theorem dX0_surges_21 : decode cX0_surges 21 = .ok (.aload_n 1, 1) := by decide +kernel
theorem dX0_surges_22 : decode cX0_surges 22 = .ok (.getfield 71, 3) := by decide +kernel
theorem dX0_surges_25 : decode cX0_surges 25 = .ok (.iload_n 3, 1) := by decide +kernel
theorem dX0_surges_26 : decode cX0_surges 26 = .ok (.iaload, 1) := by decide +kernel
theorem dX0_surges_27 : decode cX0_surges 27 = .ok (.iconst 1, 1) := by decide +kernel
theorem dX0_surges_28 : decode cX0_surges 28 = .ok (.if_icmp .ne 60, 3) := by decide +kernel
theorem dX0_surges_31 : decode cX0_surges 31 = .ok (.aload_n 0, 1) := by decide +kernel
theorem dX0_surges_32 : decode cX0_surges 32 = .ok (.getfield 9, 3) := by decide +kernel
theorem dX0_surges_35 : decode cX0_surges 35 = .ok (.iload_n 3, 1) := by decide +kernel
theorem dX0_surges_36 : decode cX0_surges 36 = .ok (.iaload, 1) := by decide +kernel
theorem dX0_surges_37 : decode cX0_surges 37 = .ok (.ifCond .le 51, 3) := by decide +kernel
theorem dX0_surges_40 : decode cX0_surges 40 = .ok (.iload_n 2, 1) := by decide +kernel
theorem dX0_surges_41 : decode cX0_surges 41 = .ok (.iload_n 3, 1) := by decide +kernel
theorem dX0_surges_42 : decode cX0_surges 42 = .ok (.invokestatic 42, 3) := by decide +kernel
theorem dX0_surges_45 : decode cX0_surges 45 = .ok (.ifCond .ne 43, 3) := by decide +kernel
theorem dX0_surges_48 : decode cX0_surges 48 = .ok (.iload 4, 2) := by decide +kernel
theorem dX0_surges_50 : decode cX0_surges 50 = .ok (.aload_n 1, 1) := by decide +kernel
theorem dX0_surges_51 : decode cX0_surges 51 = .ok (.getfield 54, 3) := by decide +kernel
theorem dX0_surges_54 : decode cX0_surges 54 = .ok (.bipush 7, 2) := by decide +kernel
theorem dX0_surges_56 : decode cX0_surges 56 = .ok (.iaload, 1) := by decide +kernel
theorem dX0_surges_57 : decode cX0_surges 57 = .ok (.aload_n 1, 1) := by decide +kernel
theorem dX0_surges_58 : decode cX0_surges 58 = .ok (.getfield 74, 3) := by decide +kernel
theorem dX0_surges_61 : decode cX0_surges 61 = .ok (.iload_n 3, 1) := by decide +kernel
theorem dX0_surges_62 : decode cX0_surges 62 = .ok (.iaload, 1) := by decide +kernel
theorem dX0_surges_63 : decode cX0_surges 63 = .ok (.imul, 1) := by decide +kernel
theorem dX0_surges_64 : decode cX0_surges 64 = .ok (.if_icmp .le 24, 3) := by decide +kernel
theorem dX0_surges_67 : decode cX0_surges 67 = .ok (.iload 4, 2) := by decide +kernel
theorem dX0_surges_69 : decode cX0_surges 69 = .ok (.aload_n 1, 1) := by decide +kernel
theorem dX0_surges_70 : decode cX0_surges 70 = .ok (.getfield 54, 3) := by decide +kernel
theorem dX0_surges_73 : decode cX0_surges 73 = .ok (.bipush 8, 2) := by decide +kernel
theorem dX0_surges_75 : decode cX0_surges 75 = .ok (.iaload, 1) := by decide +kernel
theorem dX0_surges_76 : decode cX0_surges 76 = .ok (.aload_n 1, 1) := by decide +kernel
theorem dX0_surges_77 : decode cX0_surges 77 = .ok (.getfield 74, 3) := by decide +kernel
theorem dX0_surges_80 : decode cX0_surges 80 = .ok (.iload_n 3, 1) := by decide +kernel
theorem dX0_surges_81 : decode cX0_surges 81 = .ok (.iaload, 1) := by decide +kernel
theorem dX0_surges_82 : decode cX0_surges 82 = .ok (.imul, 1) := by decide +kernel
theorem dX0_surges_83 : decode cX0_surges 83 = .ok (.if_icmp .ge 5, 3) := by decide +kernel
theorem dX0_surges_86 : decode cX0_surges 86 = .ok (.iconst 1, 1) := by decide +kernel
theorem dX0_surges_87 : decode cX0_surges 87 = .ok (.ireturn, 1) := by decide +kernel
theorem dX0_surges_88 : decode cX0_surges 88 = .ok (.iinc 3 1, 3) := by decide +kernel
theorem dX0_surges_91 : decode cX0_surges 91 = .ok (.goto (-89), 3) := by decide +kernel
theorem dX0_surges_94 : decode cX0_surges 94 = .ok (.iconst 0, 1) := by decide +kernel
theorem dX0_surges_95 : decode cX0_surges 95 = .ok (.ireturn, 1) := by decide +kernel
theorem dX0_isIn_0 : decode cX0_isIn 0 = .ok (.iload_n 0, 1) := by decide +kernel
theorem dX0_isIn_1 : decode cX0_isIn 1 = .ok (.iload_n 1, 1) := by decide +kernel
theorem dX0_isIn_2 : decode cX0_isIn 2 = .ok (.ishr, 1) := by decide +kernel
theorem dX0_isIn_3 : decode cX0_isIn 3 = .ok (.iconst 1, 1) := by decide +kernel
theorem dX0_isIn_4 : decode cX0_isIn 4 = .ok (.iand, 1) := by decide +kernel
theorem dX0_isIn_5 : decode cX0_isIn 5 = .ok (.ifCond .eq 7, 3) := by decide +kernel
theorem dX0_isIn_8 : decode cX0_isIn 8 = .ok (.iconst 1, 1) := by decide +kernel
theorem dX0_isIn_9 : decode cX0_isIn 9 = .ok (.goto 4, 3) := by decide +kernel
theorem dX0_isIn_12 : decode cX0_isIn 12 = .ok (.iconst 0, 1) := by decide +kernel
theorem dX0_isIn_13 : decode cX0_isIn 13 = .ok (.ireturn, 1) := by decide +kernel
theorem dX1_init_0 : decode cX1_init 0 = .ok (.aload_n 0, 1) := by decide +kernel
theorem dX1_init_1 : decode cX1_init 1 = .ok (.invokespecial 3, 3) := by decide +kernel
theorem dX1_init_4 : decode cX1_init 4 = .ok (.aload_n 0, 1) := by decide +kernel
theorem dX1_init_5 : decode cX1_init 5 = .ok (.bipush 10, 2) := by decide +kernel
theorem dX1_init_7 : decode cX1_init 7 = .ok (.anewarray 9, 3) := by decide +kernel
theorem dX1_init_10 : decode cX1_init 10 = .ok (.putfield 11, 3) := by decide +kernel
theorem dX1_init_13 : decode cX1_init 13 = .ok (.iconst 0, 1) := by decide +kernel
theorem dX1_init_14 : decode cX1_init 14 = .ok (.istore_n 1, 1) := by decide +kernel
theorem dX1_init_15 : decode cX1_init 15 = .ok (.iload_n 1, 1) := by decide +kernel
theorem dX1_init_16 : decode cX1_init 16 = .ok (.bipush 10, 2) := by decide +kernel
theorem dX1_init_18 : decode cX1_init 18 = .ok (.if_icmp .ge 22, 3) := by decide +kernel
theorem dX1_init_21 : decode cX1_init 21 = .ok (.aload_n 0, 1) := by decide +kernel
theorem dX1_init_22 : decode cX1_init 22 = .ok (.getfield 11, 3) := by decide +kernel
theorem dX1_init_25 : decode cX1_init 25 = .ok (.iload_n 1, 1) := by decide +kernel
theorem dX1_init_26 : decode cX1_init 26 = .ok (.new 9, 3) := by decide +kernel
theorem dX1_init_29 : decode cX1_init 29 = .ok (.dup, 1) := by decide +kernel
theorem dX1_init_30 : decode cX1_init 30 = .ok (.invokespecial 17, 3) := by decide +kernel
theorem dX1_init_33 : decode cX1_init 33 = .ok (.aastore, 1) := by decide +kernel
theorem dX1_init_34 : decode cX1_init 34 = .ok (.iinc 1 1, 3) := by decide +kernel
theorem dX1_init_37 : decode cX1_init 37 = .ok (.goto (-22), 3) := by decide +kernel
theorem dX1_init_40 : decode cX1_init 40 = .ok (.return_, 1) := by decide +kernel
theorem dX1_forget_0 : decode cX1_forget 0 = .ok (.aload_n 0, 1) := by decide +kernel
theorem dX1_forget_1 : decode cX1_forget 1 = .ok (.iconst 0, 1) := by decide +kernel
theorem dX1_forget_2 : decode cX1_forget 2 = .ok (.putfield 18, 3) := by decide +kernel
theorem dX1_forget_5 : decode cX1_forget 5 = .ok (.return_, 1) := by decide +kernel
theorem dX1_keep_0 : decode cX1_keep 0 = .ok (.aload_n 0, 1) := by decide +kernel
theorem dX1_keep_1 : decode cX1_keep 1 = .ok (.getfield 11, 3) := by decide +kernel
theorem dX1_keep_4 : decode cX1_keep 4 = .ok (.aload_n 0, 1) := by decide +kernel
theorem dX1_keep_5 : decode cX1_keep 5 = .ok (.getfield 22, 3) := by decide +kernel
theorem dX1_keep_8 : decode cX1_keep 8 = .ok (.aaload, 1) := by decide +kernel
theorem dX1_keep_9 : decode cX1_keep 9 = .ok (.aload_n 1, 1) := by decide +kernel
theorem dX1_keep_10 : decode cX1_keep 10 = .ok (.invokevirtual 25, 3) := by decide +kernel
theorem dX1_keep_13 : decode cX1_keep 13 = .ok (.aload_n 0, 1) := by decide +kernel
theorem dX1_keep_14 : decode cX1_keep 14 = .ok (.aload_n 0, 1) := by decide +kernel
theorem dX1_keep_15 : decode cX1_keep 15 = .ok (.getfield 22, 3) := by decide +kernel
theorem dX1_keep_18 : decode cX1_keep 18 = .ok (.iconst 1, 1) := by decide +kernel
theorem dX1_keep_19 : decode cX1_keep 19 = .ok (.iadd, 1) := by decide +kernel
theorem dX1_keep_20 : decode cX1_keep 20 = .ok (.bipush 10, 2) := by decide +kernel
theorem dX1_keep_22 : decode cX1_keep 22 = .ok (.if_icmp .ge 12, 3) := by decide +kernel
theorem dX1_keep_25 : decode cX1_keep 25 = .ok (.aload_n 0, 1) := by decide +kernel
theorem dX1_keep_26 : decode cX1_keep 26 = .ok (.getfield 22, 3) := by decide +kernel
theorem dX1_keep_29 : decode cX1_keep 29 = .ok (.iconst 1, 1) := by decide +kernel
theorem dX1_keep_30 : decode cX1_keep 30 = .ok (.iadd, 1) := by decide +kernel
theorem dX1_keep_31 : decode cX1_keep 31 = .ok (.goto 4, 3) := by decide +kernel
theorem dX1_keep_34 : decode cX1_keep 34 = .ok (.iconst 0, 1) := by decide +kernel
theorem dX1_keep_35 : decode cX1_keep 35 = .ok (.putfield 22, 3) := by decide +kernel
theorem dX1_keep_38 : decode cX1_keep 38 = .ok (.aload_n 0, 1) := by decide +kernel
theorem dX1_keep_39 : decode cX1_keep 39 = .ok (.aload_n 0, 1) := by decide +kernel
theorem dX1_keep_40 : decode cX1_keep 40 = .ok (.getfield 18, 3) := by decide +kernel
theorem dX1_keep_43 : decode cX1_keep 43 = .ok (.iconst 1, 1) := by decide +kernel
theorem dX1_keep_44 : decode cX1_keep 44 = .ok (.iadd, 1) := by decide +kernel
theorem dX1_keep_45 : decode cX1_keep 45 = .ok (.bipush 10, 2) := by decide +kernel
theorem dX1_keep_47 : decode cX1_keep 47 = .ok (.invokestatic 29, 3) := by decide +kernel
theorem dX1_keep_50 : decode cX1_keep 50 = .ok (.putfield 18, 3) := by decide +kernel
theorem dX1_keep_53 : decode cX1_keep 53 = .ok (.return_, 1) := by decide +kernel
theorem dX1_goBack_0 : decode cX1_goBack 0 = .ok (.aload_n 0, 1) := by decide +kernel
theorem dX1_goBack_1 : decode cX1_goBack 1 = .ok (.getfield 18, 3) := by decide +kernel
theorem dX1_goBack_4 : decode cX1_goBack 4 = .ok (.ifCond .ne 5, 3) := by decide +kernel
theorem dX1_goBack_7 : decode cX1_goBack 7 = .ok (.iconst 0, 1) := by decide +kernel
theorem dX1_goBack_8 : decode cX1_goBack 8 = .ok (.ireturn, 1) := by decide +kernel
theorem dX1_goBack_9 : decode cX1_goBack 9 = .ok (.aload_n 0, 1) := by decide +kernel
theorem dX1_goBack_10 : decode cX1_goBack 10 = .ok (.aload_n 0, 1) := by decide +kernel
theorem dX1_goBack_11 : decode cX1_goBack 11 = .ok (.getfield 22, 3) := by decide +kernel
theorem dX1_goBack_14 : decode cX1_goBack 14 = .ok (.ifCond .le 12, 3) := by decide +kernel
theorem dX1_goBack_17 : decode cX1_goBack 17 = .ok (.aload_n 0, 1) := by decide +kernel
theorem dX1_goBack_18 : decode cX1_goBack 18 = .ok (.getfield 22, 3) := by decide +kernel
theorem dX1_goBack_21 : decode cX1_goBack 21 = .ok (.iconst 1, 1) := by decide +kernel
theorem dX1_goBack_22 : decode cX1_goBack 22 = .ok (.isub, 1) := by decide +kernel
theorem dX1_goBack_23 : decode cX1_goBack 23 = .ok (.goto 5, 3) := by decide +kernel
theorem dX1_goBack_26 : decode cX1_goBack 26 = .ok (.bipush 9, 2) := by decide +kernel
theorem dX1_goBack_28 : decode cX1_goBack 28 = .ok (.putfield 22, 3) := by decide +kernel
theorem dX1_goBack_31 : decode cX1_goBack 31 = .ok (.aload_n 0, 1) := by decide +kernel
theorem dX1_goBack_32 : decode cX1_goBack 32 = .ok (.dup, 1) := by decide +kernel
theorem dX1_goBack_33 : decode cX1_goBack 33 = .ok (.getfield 18, 3) := by decide +kernel
theorem dX1_goBack_36 : decode cX1_goBack 36 = .ok (.iconst 1, 1) := by decide +kernel
theorem dX1_goBack_37 : decode cX1_goBack 37 = .ok (.isub, 1) := by decide +kernel
theorem dX1_goBack_38 : decode cX1_goBack 38 = .ok (.putfield 18, 3) := by decide +kernel
theorem dX1_goBack_41 : decode cX1_goBack 41 = .ok (.aload_n 1, 1) := by decide +kernel
theorem dX1_goBack_42 : decode cX1_goBack 42 = .ok (.aload_n 0, 1) := by decide +kernel
theorem dX1_goBack_43 : decode cX1_goBack 43 = .ok (.getfield 11, 3) := by decide +kernel
theorem dX1_goBack_46 : decode cX1_goBack 46 = .ok (.aload_n 0, 1) := by decide +kernel
theorem dX1_goBack_47 : decode cX1_goBack 47 = .ok (.getfield 22, 3) := by decide +kernel
theorem dX1_goBack_50 : decode cX1_goBack 50 = .ok (.aaload, 1) := by decide +kernel
theorem dX1_goBack_51 : decode cX1_goBack 51 = .ok (.invokevirtual 25, 3) := by decide +kernel
theorem dX1_goBack_54 : decode cX1_goBack 54 = .ok (.iconst 1, 1) := by decide +kernel
theorem dX1_goBack_55 : decode cX1_goBack 55 = .ok (.ireturn, 1) := by decide +kernel
theorem dX2_init_0 : decode cX2_init 0 = .ok (.aload_n 0, 1) := by decide +kernel
theorem dX2_init_1 : decode cX2_init 1 = .ok (.invokespecial 3, 3) := by decide +kernel
theorem dX2_init_4 : decode cX2_init 4 = .ok (.aload_n 0, 1) := by decide +kernel
theorem dX2_init_5 : decode cX2_init 5 = .ok (.iconst 5, 1) := by decide +kernel
theorem dX2_init_6 : decode cX2_init 6 = .ok (.newarray .int, 2) := by decide +kernel
theorem dX2_init_8 : decode cX2_init 8 = .ok (.putfield 9, 3) := by decide +kernel
theorem dX2_init_11 : decode cX2_init 11 = .ok (.aload_n 0, 1) := by decide +kernel
theorem dX2_init_12 : decode cX2_init 12 = .ok (.iconst 5, 1) := by decide +kernel
theorem dX2_init_13 : decode cX2_init 13 = .ok (.newarray .int, 2) := by decide +kernel
theorem dX2_init_15 : decode cX2_init 15 = .ok (.putfield 15, 3) := by decide +kernel
theorem dX2_init_18 : decode cX2_init 18 = .ok (.aload_n 0, 1) := by decide +kernel
theorem dX2_init_19 : decode cX2_init 19 = .ok (.bipush 32, 2) := by decide +kernel
theorem dX2_init_21 : decode cX2_init 21 = .ok (.newarray .int, 2) := by decide +kernel
theorem dX2_init_23 : decode cX2_init 23 = .ok (.putfield 18, 3) := by decide +kernel
theorem dX2_init_26 : decode cX2_init 26 = .ok (.return_, 1) := by decide +kernel
theorem dX2_count_0 : decode cX2_count 0 = .ok (.aload_n 0, 1) := by decide +kernel
theorem dX2_count_1 : decode cX2_count 1 = .ok (.aload_n 1, 1) := by decide +kernel
theorem dX2_count_2 : decode cX2_count 2 = .ok (.aload_n 2, 1) := by decide +kernel
theorem dX2_count_3 : decode cX2_count 3 = .ok (.iload_n 3, 1) := by decide +kernel
theorem dX2_count_4 : decode cX2_count 4 = .ok (.invokevirtual 21, 3) := by decide +kernel
theorem dX2_count_7 : decode cX2_count 7 = .ok (.iconst 1, 1) := by decide +kernel
theorem dX2_count_8 : decode cX2_count 8 = .ok (.aload_n 0, 1) := by decide +kernel
theorem dX2_count_9 : decode cX2_count 9 = .ok (.getfield 25, 3) := by decide +kernel
theorem dX2_count_12 : decode cX2_count 12 = .ok (.ishl, 1) := by decide +kernel
theorem dX2_count_13 : decode cX2_count 13 = .ok (.iconst 1, 1) := by decide +kernel
theorem dX2_count_14 : decode cX2_count 14 = .ok (.isub, 1) := by decide +kernel
theorem dX2_count_15 : decode cX2_count 15 = .ok (.istore 4, 2) := by decide +kernel
theorem dX2_count_17 : decode cX2_count 17 = .ok (.iload 4, 2) := by decide +kernel
theorem dX2_count_19 : decode cX2_count 19 = .ok (.istore 5, 2) := by decide +kernel
theorem dX2_count_21 : decode cX2_count 21 = .ok (.iload 5, 2) := by decide +kernel
theorem dX2_count_23 : decode cX2_count 23 = .ok (.ifCond .lt 75, 3) := by decide +kernel
theorem dX2_count_26 : decode cX2_count 26 = .ok (.iload 5, 2) := by decide +kernel
theorem dX2_count_28 : decode cX2_count 28 = .ok (.ifCond .eq 17, 3) := by decide +kernel
theorem dX2_count_31 : decode cX2_count 31 = .ok (.aload_n 2, 1) := by decide +kernel
theorem dX2_count_32 : decode cX2_count 32 = .ok (.aload_n 1, 1) := by decide +kernel
theorem dX2_count_33 : decode cX2_count 33 = .ok (.aload_n 0, 1) := by decide +kernel
theorem dX2_count_34 : decode cX2_count 34 = .ok (.iload 5, 2) := by decide +kernel
theorem dX2_count_36 : decode cX2_count 36 = .ok (.invokevirtual 29, 3) := by decide +kernel
theorem dX2_count_39 : decode cX2_count 39 = .ok (.invokevirtual 33, 3) := by decide +kernel
theorem dX2_count_42 : decode cX2_count 42 = .ok (.ifCond .ne 7, 3) := by decide +kernel
theorem dX2_count_45 : decode cX2_count 45 = .ok (.iconst 1, 1) := by decide +kernel
theorem dX2_count_46 : decode cX2_count 46 = .ok (.goto 4, 3) := by decide +kernel
theorem dX2_count_49 : decode cX2_count 49 = .ok (.iconst 0, 1) := by decide +kernel
theorem dX2_count_50 : decode cX2_count 50 = .ok (.istore 6, 2) := by decide +kernel
theorem dX2_count_52 : decode cX2_count 52 = .ok (.iload 6, 2) := by decide +kernel
theorem dX2_count_54 : decode cX2_count 54 = .ok (.ifCond .ne 14, 3) := by decide +kernel
theorem dX2_count_57 : decode cX2_count 57 = .ok (.aload_n 0, 1) := by decide +kernel
theorem dX2_count_58 : decode cX2_count 58 = .ok (.getfield 18, 3) := by decide +kernel
theorem dX2_count_61 : decode cX2_count 61 = .ok (.iload 5, 2) := by decide +kernel
theorem dX2_count_63 : decode cX2_count 63 = .ok (.iconst 0, 1) := by decide +kernel
theorem dX2_count_64 : decode cX2_count 64 = .ok (.iastore, 1) := by decide +kernel
theorem dX2_count_65 : decode cX2_count 65 = .ok (.goto 27, 3) := by decide +kernel
theorem dX2_count_68 : decode cX2_count 68 = .ok (.aload_n 0, 1) := by decide +kernel
theorem dX2_count_69 : decode cX2_count 69 = .ok (.getfield 18, 3) := by decide +kernel
theorem dX2_count_72 : decode cX2_count 72 = .ok (.iload 5, 2) := by decide +kernel
theorem dX2_count_74 : decode cX2_count 74 = .ok (.iload 5, 2) := by decide +kernel
theorem dX2_count_76 : decode cX2_count 76 = .ok (.iload 4, 2) := by decide +kernel
theorem dX2_count_78 : decode cX2_count 78 = .ok (.if_icmp .ne 7, 3) := by decide +kernel
theorem dX2_count_81 : decode cX2_count 81 = .ok (.iconst 1, 1) := by decide +kernel
theorem dX2_count_82 : decode cX2_count 82 = .ok (.goto 9, 3) := by decide +kernel
theorem dX2_count_85 : decode cX2_count 85 = .ok (.aload_n 0, 1) := by decide +kernel
theorem dX2_count_86 : decode cX2_count 86 = .ok (.iload 5, 2) := by decide +kernel
theorem dX2_count_88 : decode cX2_count 88 = .ok (.invokevirtual 39, 3) := by decide +kernel
theorem dX2_count_91 : decode cX2_count 91 = .ok (.iastore, 1) := by decide +kernel
theorem dX2_count_92 : decode cX2_count 92 = .ok (.iinc 5 (-1), 3) := by decide +kernel
theorem dX2_count_95 : decode cX2_count 95 = .ok (.goto (-74), 3) := by decide +kernel
theorem dX2_count_98 : decode cX2_count 98 = .ok (.aload_n 0, 1) := by decide +kernel
theorem dX2_count_99 : decode cX2_count 99 = .ok (.getfield 18, 3) := by decide +kernel
theorem dX2_count_102 : decode cX2_count 102 = .ok (.iconst 0, 1) := by decide +kernel
theorem dX2_count_103 : decode cX2_count 103 = .ok (.iaload, 1) := by decide +kernel
theorem dX2_count_104 : decode cX2_count 104 = .ok (.ireturn, 1) := by decide +kernel
theorem dX2_dropOfFirst_0 : decode cX2_dropOfFirst 0 = .ok (.iload_n 1, 1) := by decide +kernel
theorem dX2_dropOfFirst_1 : decode cX2_dropOfFirst 1 = .ok (.ifCond .lt 20, 3) := by decide +kernel
theorem dX2_dropOfFirst_4 : decode cX2_dropOfFirst 4 = .ok (.iload_n 1, 1) := by decide +kernel
theorem dX2_dropOfFirst_5 : decode cX2_dropOfFirst 5 = .ok (.aload_n 0, 1) := by decide +kernel
theorem dX2_dropOfFirst_6 : decode cX2_dropOfFirst 6 = .ok (.getfield 25, 3) := by decide +kernel
theorem dX2_dropOfFirst_9 : decode cX2_dropOfFirst 9 = .ok (.if_icmp .ge 12, 3) := by decide +kernel
theorem dX2_dropOfFirst_12 : decode cX2_dropOfFirst 12 = .ok (.aload_n 0, 1) := by decide +kernel
theorem dX2_dropOfFirst_13 : decode cX2_dropOfFirst 13 = .ok (.getfield 18, 3) := by decide +kernel
theorem dX2_dropOfFirst_16 : decode cX2_dropOfFirst 16 = .ok (.iconst 0, 1) := by decide +kernel
theorem dX2_dropOfFirst_17 : decode cX2_dropOfFirst 17 = .ok (.iaload, 1) := by decide +kernel
theorem dX2_dropOfFirst_18 : decode cX2_dropOfFirst 18 = .ok (.ifCond .ne 5, 3) := by decide +kernel
theorem dX2_dropOfFirst_21 : decode cX2_dropOfFirst 21 = .ok (.iconst (-1), 1) := by decide +kernel
theorem dX2_dropOfFirst_22 : decode cX2_dropOfFirst 22 = .ok (.ireturn, 1) := by decide +kernel
theorem dX2_dropOfFirst_23 : decode cX2_dropOfFirst 23 = .ok (.iconst 0, 1) := by decide +kernel
theorem dX2_dropOfFirst_24 : decode cX2_dropOfFirst 24 = .ok (.istore_n 2, 1) := by decide +kernel
theorem dX2_dropOfFirst_25 : decode cX2_dropOfFirst 25 = .ok (.iconst (-1), 1) := by decide +kernel
theorem dX2_dropOfFirst_26 : decode cX2_dropOfFirst 26 = .ok (.istore_n 3, 1) := by decide +kernel
theorem dX2_dropOfFirst_27 : decode cX2_dropOfFirst 27 = .ok (.iconst 0, 1) := by decide +kernel
theorem dX2_dropOfFirst_28 : decode cX2_dropOfFirst 28 = .ok (.istore 4, 2) := by decide +kernel
theorem dX2_dropOfFirst_30 : decode cX2_dropOfFirst 30 = .ok (.iload 4, 2) := by decide +kernel
theorem dX2_dropOfFirst_32 : decode cX2_dropOfFirst 32 = .ok (.iload_n 1, 1) := by decide +kernel
theorem dX2_dropOfFirst_33 : decode cX2_dropOfFirst 33 = .ok (.if_icmp .gt 28, 3) := by decide +kernel
theorem dX2_dropOfFirst_36 : decode cX2_dropOfFirst 36 = .ok (.aload_n 0, 1) := by decide +kernel
theorem dX2_dropOfFirst_37 : decode cX2_dropOfFirst 37 = .ok (.iload_n 2, 1) := by decide +kernel
theorem dX2_dropOfFirst_38 : decode cX2_dropOfFirst 38 = .ok (.invokevirtual 42, 3) := by decide +kernel
theorem dX2_dropOfFirst_41 : decode cX2_dropOfFirst 41 = .ok (.istore_n 3, 1) := by decide +kernel
theorem dX2_dropOfFirst_42 : decode cX2_dropOfFirst 42 = .ok (.iload_n 3, 1) := by decide +kernel
theorem dX2_dropOfFirst_43 : decode cX2_dropOfFirst 43 = .ok (.iconst (-1), 1) := by decide +kernel
theorem dX2_dropOfFirst_44 : decode cX2_dropOfFirst 44 = .ok (.if_icmp .ne 5, 3) := by decide +kernel
theorem dX2_dropOfFirst_47 : decode cX2_dropOfFirst 47 = .ok (.iconst (-1), 1) := by decide +kernel
theorem dX2_dropOfFirst_48 : decode cX2_dropOfFirst 48 = .ok (.ireturn, 1) := by decide +kernel
theorem dX2_dropOfFirst_49 : decode cX2_dropOfFirst 49 = .ok (.iload_n 2, 1) := by decide +kernel
theorem dX2_dropOfFirst_50 : decode cX2_dropOfFirst 50 = .ok (.iconst 1, 1) := by decide +kernel
theorem dX2_dropOfFirst_51 : decode cX2_dropOfFirst 51 = .ok (.iload_n 3, 1) := by decide +kernel
theorem dX2_dropOfFirst_52 : decode cX2_dropOfFirst 52 = .ok (.ishl, 1) := by decide +kernel
theorem dX2_dropOfFirst_53 : decode cX2_dropOfFirst 53 = .ok (.ior, 1) := by decide +kernel
theorem dX2_dropOfFirst_54 : decode cX2_dropOfFirst 54 = .ok (.istore_n 2, 1) := by decide +kernel
theorem dX2_dropOfFirst_55 : decode cX2_dropOfFirst 55 = .ok (.iinc 4 1, 3) := by decide +kernel
theorem dX2_dropOfFirst_58 : decode cX2_dropOfFirst 58 = .ok (.goto (-28), 3) := by decide +kernel
theorem dX2_dropOfFirst_61 : decode cX2_dropOfFirst 61 = .ok (.aload_n 0, 1) := by decide +kernel
theorem dX2_dropOfFirst_62 : decode cX2_dropOfFirst 62 = .ok (.getfield 9, 3) := by decide +kernel
theorem dX2_dropOfFirst_65 : decode cX2_dropOfFirst 65 = .ok (.iload_n 3, 1) := by decide +kernel
theorem dX2_dropOfFirst_66 : decode cX2_dropOfFirst 66 = .ok (.iaload, 1) := by decide +kernel
theorem dX2_dropOfFirst_67 : decode cX2_dropOfFirst 67 = .ok (.ireturn, 1) := by decide +kernel
theorem dX2_collect_0 : decode cX2_collect 0 = .ok (.aload_n 0, 1) := by decide +kernel
theorem dX2_collect_1 : decode cX2_collect 1 = .ok (.iconst 0, 1) := by decide +kernel
theorem dX2_collect_2 : decode cX2_collect 2 = .ok (.putfield 25, 3) := by decide +kernel
theorem dX2_collect_5 : decode cX2_collect 5 = .ok (.iconst 0, 1) := by decide +kernel
theorem dX2_collect_6 : decode cX2_collect 6 = .ok (.istore 4, 2) := by decide +kernel
theorem dX2_collect_8 : decode cX2_collect 8 = .ok (.iload 4, 2) := by decide +kernel
theorem dX2_collect_10 : decode cX2_collect 10 = .ok (.iload_n 3, 1) := by decide +kernel
theorem dX2_collect_11 : decode cX2_collect 11 = .ok (.if_icmp .ge 69, 3) := by decide +kernel
theorem dX2_collect_14 : decode cX2_collect 14 = .ok (.aload_n 0, 1) := by decide +kernel
theorem dX2_collect_15 : decode cX2_collect 15 = .ok (.getfield 25, 3) := by decide +kernel
theorem dX2_collect_18 : decode cX2_collect 18 = .ok (.iconst 5, 1) := by decide +kernel
theorem dX2_collect_19 : decode cX2_collect 19 = .ok (.if_icmp .ge 61, 3) := by decide +kernel
theorem dX2_collect_22 : decode cX2_collect 22 = .ok (.aload_n 2, 1) := by decide +kernel
theorem dX2_collect_23 : decode cX2_collect 23 = .ok (.iload 4, 2) := by decide +kernel
theorem dX2_collect_25 : decode cX2_collect 25 = .ok (.invokevirtual 45, 3) := by decide +kernel
theorem dX2_collect_28 : decode cX2_collect 28 = .ok (.aload_n 1, 1) := by decide +kernel
theorem dX2_collect_29 : decode cX2_collect 29 = .ok (.getfield 48, 3) := by decide +kernel
theorem dX2_collect_32 : decode cX2_collect 32 = .ok (.iload 4, 2) := by decide +kernel
theorem dX2_collect_34 : decode cX2_collect 34 = .ok (.iaload, 1) := by decide +kernel
theorem dX2_collect_35 : decode cX2_collect 35 = .ok (.if_icmp .ne 39, 3) := by decide +kernel
theorem dX2_collect_38 : decode cX2_collect 38 = .ok (.aload_n 0, 1) := by decide +kernel
theorem dX2_collect_39 : decode cX2_collect 39 = .ok (.getfield 9, 3) := by decide +kernel
theorem dX2_collect_42 : decode cX2_collect 42 = .ok (.aload_n 0, 1) := by decide +kernel
theorem dX2_collect_43 : decode cX2_collect 43 = .ok (.getfield 25, 3) := by decide +kernel
theorem dX2_collect_46 : decode cX2_collect 46 = .ok (.iload 4, 2) := by decide +kernel
theorem dX2_collect_48 : decode cX2_collect 48 = .ok (.iastore, 1) := by decide +kernel
theorem dX2_collect_49 : decode cX2_collect 49 = .ok (.aload_n 0, 1) := by decide +kernel
theorem dX2_collect_50 : decode cX2_collect 50 = .ok (.getfield 15, 3) := by decide +kernel
theorem dX2_collect_53 : decode cX2_collect 53 = .ok (.aload_n 0, 1) := by decide +kernel
theorem dX2_collect_54 : decode cX2_collect 54 = .ok (.getfield 25, 3) := by decide +kernel
theorem dX2_collect_57 : decode cX2_collect 57 = .ok (.aload_n 2, 1) := by decide +kernel
theorem dX2_collect_58 : decode cX2_collect 58 = .ok (.iload 4, 2) := by decide +kernel
theorem dX2_collect_60 : decode cX2_collect 60 = .ok (.invokevirtual 53, 3) := by decide +kernel
theorem dX2_collect_63 : decode cX2_collect 63 = .ok (.iastore, 1) := by decide +kernel
theorem dX2_collect_64 : decode cX2_collect 64 = .ok (.aload_n 0, 1) := by decide +kernel
theorem dX2_collect_65 : decode cX2_collect 65 = .ok (.dup, 1) := by decide +kernel
theorem dX2_collect_66 : decode cX2_collect 66 = .ok (.getfield 25, 3) := by decide +kernel
theorem dX2_collect_69 : decode cX2_collect 69 = .ok (.iconst 1, 1) := by decide +kernel
theorem dX2_collect_70 : decode cX2_collect 70 = .ok (.iadd, 1) := by decide +kernel
theorem dX2_collect_71 : decode cX2_collect 71 = .ok (.putfield 25, 3) := by decide +kernel
theorem dX2_collect_74 : decode cX2_collect 74 = .ok (.iinc 4 1, 3) := by decide +kernel
theorem dX2_collect_77 : decode cX2_collect 77 = .ok (.goto (-69), 3) := by decide +kernel
theorem dX2_collect_80 : decode cX2_collect 80 = .ok (.return_, 1) := by decide +kernel
theorem dX2_partsOfAll_0 : decode cX2_partsOfAll 0 = .ok (.iconst 0, 1) := by decide +kernel
theorem dX2_partsOfAll_1 : decode cX2_partsOfAll 1 = .ok (.istore_n 2, 1) := by decide +kernel
theorem dX2_partsOfAll_2 : decode cX2_partsOfAll 2 = .ok (.iconst 0, 1) := by decide +kernel
theorem dX2_partsOfAll_3 : decode cX2_partsOfAll 3 = .ok (.istore_n 3, 1) := by decide +kernel
theorem dX2_partsOfAll_4 : decode cX2_partsOfAll 4 = .ok (.iload_n 3, 1) := by decide +kernel
theorem dX2_partsOfAll_5 : decode cX2_partsOfAll 5 = .ok (.aload_n 0, 1) := by decide +kernel
theorem dX2_partsOfAll_6 : decode cX2_partsOfAll 6 = .ok (.getfield 25, 3) := by decide +kernel
theorem dX2_partsOfAll_9 : decode cX2_partsOfAll 9 = .ok (.if_icmp .ge 26, 3) := by decide +kernel
theorem dX2_partsOfAll_12 : decode cX2_partsOfAll 12 = .ok (.iload_n 1, 1) := by decide +kernel
theorem dX2_partsOfAll_13 : decode cX2_partsOfAll 13 = .ok (.iload_n 3, 1) := by decide +kernel
theorem dX2_partsOfAll_14 : decode cX2_partsOfAll 14 = .ok (.ishr, 1) := by decide +kernel
theorem dX2_partsOfAll_15 : decode cX2_partsOfAll 15 = .ok (.iconst 1, 1) := by decide +kernel
theorem dX2_partsOfAll_16 : decode cX2_partsOfAll 16 = .ok (.iand, 1) := by decide +kernel
theorem dX2_partsOfAll_17 : decode cX2_partsOfAll 17 = .ok (.ifCond .eq 12, 3) := by decide +kernel
theorem dX2_partsOfAll_20 : decode cX2_partsOfAll 20 = .ok (.iload_n 2, 1) := by decide +kernel
theorem dX2_partsOfAll_21 : decode cX2_partsOfAll 21 = .ok (.aload_n 0, 1) := by decide +kernel
theorem dX2_partsOfAll_22 : decode cX2_partsOfAll 22 = .ok (.getfield 15, 3) := by decide +kernel
theorem dX2_partsOfAll_25 : decode cX2_partsOfAll 25 = .ok (.iload_n 3, 1) := by decide +kernel
theorem dX2_partsOfAll_26 : decode cX2_partsOfAll 26 = .ok (.iaload, 1) := by decide +kernel
theorem dX2_partsOfAll_27 : decode cX2_partsOfAll 27 = .ok (.ior, 1) := by decide +kernel
theorem dX2_partsOfAll_28 : decode cX2_partsOfAll 28 = .ok (.istore_n 2, 1) := by decide +kernel
theorem dX2_partsOfAll_29 : decode cX2_partsOfAll 29 = .ok (.iinc 3 1, 3) := by decide +kernel
theorem dX2_partsOfAll_32 : decode cX2_partsOfAll 32 = .ok (.goto (-28), 3) := by decide +kernel
theorem dX2_partsOfAll_35 : decode cX2_partsOfAll 35 = .ok (.iload_n 2, 1) := by decide +kernel
theorem dX2_partsOfAll_36 : decode cX2_partsOfAll 36 = .ok (.ireturn, 1) := by decide +kernel
theorem dX2_waysBehind_0 : decode cX2_waysBehind 0 = .ok (.iconst 0, 1) := by decide +kernel
theorem dX2_waysBehind_1 : decode cX2_waysBehind 1 = .ok (.istore_n 2, 1) := by decide +kernel
theorem dX2_waysBehind_2 : decode cX2_waysBehind 2 = .ok (.iconst 0, 1) := by decide +kernel
theorem dX2_waysBehind_3 : decode cX2_waysBehind 3 = .ok (.istore_n 3, 1) := by decide +kernel
theorem dX2_waysBehind_4 : decode cX2_waysBehind 4 = .ok (.iload_n 3, 1) := by decide +kernel
theorem dX2_waysBehind_5 : decode cX2_waysBehind 5 = .ok (.aload_n 0, 1) := by decide +kernel
theorem dX2_waysBehind_6 : decode cX2_waysBehind 6 = .ok (.getfield 25, 3) := by decide +kernel
theorem dX2_waysBehind_9 : decode cX2_waysBehind 9 = .ok (.if_icmp .ge 30, 3) := by decide +kernel
theorem dX2_waysBehind_12 : decode cX2_waysBehind 12 = .ok (.iload_n 1, 1) := by decide +kernel
theorem dX2_waysBehind_13 : decode cX2_waysBehind 13 = .ok (.iload_n 3, 1) := by decide +kernel
theorem dX2_waysBehind_14 : decode cX2_waysBehind 14 = .ok (.ishr, 1) := by decide +kernel
theorem dX2_waysBehind_15 : decode cX2_waysBehind 15 = .ok (.iconst 1, 1) := by decide +kernel
theorem dX2_waysBehind_16 : decode cX2_waysBehind 16 = .ok (.iand, 1) := by decide +kernel
theorem dX2_waysBehind_17 : decode cX2_waysBehind 17 = .ok (.ifCond .ne 16, 3) := by decide +kernel
theorem dX2_waysBehind_20 : decode cX2_waysBehind 20 = .ok (.iload_n 2, 1) := by decide +kernel
theorem dX2_waysBehind_21 : decode cX2_waysBehind 21 = .ok (.aload_n 0, 1) := by decide +kernel
theorem dX2_waysBehind_22 : decode cX2_waysBehind 22 = .ok (.getfield 18, 3) := by decide +kernel
theorem dX2_waysBehind_25 : decode cX2_waysBehind 25 = .ok (.iload_n 1, 1) := by decide +kernel
theorem dX2_waysBehind_26 : decode cX2_waysBehind 26 = .ok (.iconst 1, 1) := by decide +kernel
theorem dX2_waysBehind_27 : decode cX2_waysBehind 27 = .ok (.iload_n 3, 1) := by decide +kernel
theorem dX2_waysBehind_28 : decode cX2_waysBehind 28 = .ok (.ishl, 1) := by decide +kernel
theorem dX2_waysBehind_29 : decode cX2_waysBehind 29 = .ok (.ior, 1) := by decide +kernel
theorem dX2_waysBehind_30 : decode cX2_waysBehind 30 = .ok (.iaload, 1) := by decide +kernel
theorem dX2_waysBehind_31 : decode cX2_waysBehind 31 = .ok (.iadd, 1) := by decide +kernel
theorem dX2_waysBehind_32 : decode cX2_waysBehind 32 = .ok (.istore_n 2, 1) := by decide +kernel
theorem dX2_waysBehind_33 : decode cX2_waysBehind 33 = .ok (.iinc 3 1, 3) := by decide +kernel
theorem dX2_waysBehind_36 : decode cX2_waysBehind 36 = .ok (.goto (-32), 3) := by decide +kernel
theorem dX2_waysBehind_39 : decode cX2_waysBehind 39 = .ok (.iload_n 2, 1) := by decide +kernel
theorem dX2_waysBehind_40 : decode cX2_waysBehind 40 = .ok (.ireturn, 1) := by decide +kernel
theorem dX2_leastBehind_0 : decode cX2_leastBehind 0 = .ok (.iconst 0, 1) := by decide +kernel
theorem dX2_leastBehind_1 : decode cX2_leastBehind 1 = .ok (.istore_n 2, 1) := by decide +kernel
theorem dX2_leastBehind_2 : decode cX2_leastBehind 2 = .ok (.iload_n 2, 1) := by decide +kernel
theorem dX2_leastBehind_3 : decode cX2_leastBehind 3 = .ok (.aload_n 0, 1) := by decide +kernel
theorem dX2_leastBehind_4 : decode cX2_leastBehind 4 = .ok (.getfield 25, 3) := by decide +kernel
theorem dX2_leastBehind_7 : decode cX2_leastBehind 7 = .ok (.if_icmp .ge 32, 3) := by decide +kernel
theorem dX2_leastBehind_10 : decode cX2_leastBehind 10 = .ok (.iload_n 1, 1) := by decide +kernel
theorem dX2_leastBehind_11 : decode cX2_leastBehind 11 = .ok (.iload_n 2, 1) := by decide +kernel
theorem dX2_leastBehind_12 : decode cX2_leastBehind 12 = .ok (.ishr, 1) := by decide +kernel
theorem dX2_leastBehind_13 : decode cX2_leastBehind 13 = .ok (.iconst 1, 1) := by decide +kernel
theorem dX2_leastBehind_14 : decode cX2_leastBehind 14 = .ok (.iand, 1) := by decide +kernel
theorem dX2_leastBehind_15 : decode cX2_leastBehind 15 = .ok (.ifCond .ne 18, 3) := by decide +kernel
theorem dX2_leastBehind_18 : decode cX2_leastBehind 18 = .ok (.aload_n 0, 1) := by decide +kernel
theorem dX2_leastBehind_19 : decode cX2_leastBehind 19 = .ok (.getfield 18, 3) := by decide +kernel
theorem dX2_leastBehind_22 : decode cX2_leastBehind 22 = .ok (.iload_n 1, 1) := by decide +kernel
theorem dX2_leastBehind_23 : decode cX2_leastBehind 23 = .ok (.iconst 1, 1) := by decide +kernel
theorem dX2_leastBehind_24 : decode cX2_leastBehind 24 = .ok (.iload_n 2, 1) := by decide +kernel
theorem dX2_leastBehind_25 : decode cX2_leastBehind 25 = .ok (.ishl, 1) := by decide +kernel
theorem dX2_leastBehind_26 : decode cX2_leastBehind 26 = .ok (.ior, 1) := by decide +kernel
theorem dX2_leastBehind_27 : decode cX2_leastBehind 27 = .ok (.iaload, 1) := by decide +kernel
theorem dX2_leastBehind_28 : decode cX2_leastBehind 28 = .ok (.ifCond .le 5, 3) := by decide +kernel
theorem dX2_leastBehind_31 : decode cX2_leastBehind 31 = .ok (.iload_n 2, 1) := by decide +kernel
theorem dX2_leastBehind_32 : decode cX2_leastBehind 32 = .ok (.ireturn, 1) := by decide +kernel
theorem dX2_leastBehind_33 : decode cX2_leastBehind 33 = .ok (.iinc 2 1, 3) := by decide +kernel
theorem dX2_leastBehind_36 : decode cX2_leastBehind 36 = .ok (.goto (-34), 3) := by decide +kernel
theorem dX2_leastBehind_39 : decode cX2_leastBehind 39 = .ok (.iconst (-1), 1) := by decide +kernel
theorem dX2_leastBehind_40 : decode cX2_leastBehind 40 = .ok (.ireturn, 1) := by decide +kernel
theorem dX3_init_0 : decode cX3_init 0 = .ok (.aload_n 0, 1) := by decide +kernel
theorem dX3_init_1 : decode cX3_init 1 = .ok (.invokespecial 3, 3) := by decide +kernel
theorem dX3_init_4 : decode cX3_init 4 = .ok (.aload_n 0, 1) := by decide +kernel
theorem dX3_init_5 : decode cX3_init 5 = .ok (.new 9, 3) := by decide +kernel
theorem dX3_init_8 : decode cX3_init 8 = .ok (.dup, 1) := by decide +kernel
theorem dX3_init_9 : decode cX3_init 9 = .ok (.invokespecial 11, 3) := by decide +kernel
theorem dX3_init_12 : decode cX3_init 12 = .ok (.putfield 12, 3) := by decide +kernel
theorem dX3_init_15 : decode cX3_init 15 = .ok (.aload_n 0, 1) := by decide +kernel
theorem dX3_init_16 : decode cX3_init 16 = .ok (.new 18, 3) := by decide +kernel
theorem dX3_init_19 : decode cX3_init 19 = .ok (.dup, 1) := by decide +kernel
theorem dX3_init_20 : decode cX3_init 20 = .ok (.invokespecial 20, 3) := by decide +kernel
theorem dX3_init_23 : decode cX3_init 23 = .ok (.putfield 21, 3) := by decide +kernel
theorem dX3_init_26 : decode cX3_init 26 = .ok (.aload_n 0, 1) := by decide +kernel
theorem dX3_init_27 : decode cX3_init 27 = .ok (.iconst 4, 1) := by decide +kernel
theorem dX3_init_28 : decode cX3_init 28 = .ok (.newarray .int, 2) := by decide +kernel
theorem dX3_init_30 : decode cX3_init 30 = .ok (.putfield 25, 3) := by decide +kernel
theorem dX3_init_33 : decode cX3_init 33 = .ok (.aload_n 0, 1) := by decide +kernel
theorem dX3_init_34 : decode cX3_init 34 = .ok (.iconst 4, 1) := by decide +kernel
theorem dX3_init_35 : decode cX3_init 35 = .ok (.newarray .int, 2) := by decide +kernel
theorem dX3_init_37 : decode cX3_init 37 = .ok (.putfield 29, 3) := by decide +kernel
theorem dX3_init_40 : decode cX3_init 40 = .ok (.aload_n 0, 1) := by decide +kernel
theorem dX3_init_41 : decode cX3_init 41 = .ok (.iconst 4, 1) := by decide +kernel
theorem dX3_init_42 : decode cX3_init 42 = .ok (.newarray .int, 2) := by decide +kernel
theorem dX3_init_44 : decode cX3_init 44 = .ok (.putfield 32, 3) := by decide +kernel
theorem dX3_init_47 : decode cX3_init 47 = .ok (.aload_n 0, 1) := by decide +kernel
theorem dX3_init_48 : decode cX3_init 48 = .ok (.bipush 6, 2) := by decide +kernel
theorem dX3_init_50 : decode cX3_init 50 = .ok (.newarray .int, 2) := by decide +kernel
theorem dX3_init_52 : decode cX3_init 52 = .ok (.putfield 35, 3) := by decide +kernel
theorem dX3_init_55 : decode cX3_init 55 = .ok (.aload_n 0, 1) := by decide +kernel
theorem dX3_init_56 : decode cX3_init 56 = .ok (.iconst 5, 1) := by decide +kernel
theorem dX3_init_57 : decode cX3_init 57 = .ok (.newarray .int, 2) := by decide +kernel
theorem dX3_init_59 : decode cX3_init 59 = .ok (.putfield 38, 3) := by decide +kernel
theorem dX3_init_62 : decode cX3_init 62 = .ok (.aload_n 0, 1) := by decide +kernel
theorem dX3_init_63 : decode cX3_init 63 = .ok (.iconst 5, 1) := by decide +kernel
theorem dX3_init_64 : decode cX3_init 64 = .ok (.newarray .int, 2) := by decide +kernel
theorem dX3_init_66 : decode cX3_init 66 = .ok (.putfield 41, 3) := by decide +kernel
theorem dX3_init_69 : decode cX3_init 69 = .ok (.return_, 1) := by decide +kernel
theorem dX3_findsPlan_0 : decode cX3_findsPlan 0 = .ok (.aload_n 0, 1) := by decide +kernel
theorem dX3_findsPlan_1 : decode cX3_findsPlan 1 = .ok (.aload_n 1, 1) := by decide +kernel
theorem dX3_findsPlan_2 : decode cX3_findsPlan 2 = .ok (.aload_n 2, 1) := by decide +kernel
theorem dX3_findsPlan_3 : decode cX3_findsPlan 3 = .ok (.iconst 0, 1) := by decide +kernel
theorem dX3_findsPlan_4 : decode cX3_findsPlan 4 = .ok (.invokevirtual 44, 3) := by decide +kernel
theorem dX3_findsPlan_7 : decode cX3_findsPlan 7 = .ok (.aload_n 0, 1) := by decide +kernel
theorem dX3_findsPlan_8 : decode cX3_findsPlan 8 = .ok (.iconst 0, 1) := by decide +kernel
theorem dX3_findsPlan_9 : decode cX3_findsPlan 9 = .ok (.invokestatic 48, 3) := by decide +kernel
theorem dX3_findsPlan_12 : decode cX3_findsPlan 12 = .ok (.aload_n 0, 1) := by decide +kernel
theorem dX3_findsPlan_13 : decode cX3_findsPlan 13 = .ok (.getfield 52, 3) := by decide +kernel
theorem dX3_findsPlan_16 : decode cX3_findsPlan 16 = .ok (.ireturn, 1) := by decide +kernel
theorem dX3_fewestWashes_0 : decode cX3_fewestWashes 0 = .ok (.aload_n 0, 1) := by decide +kernel
theorem dX3_fewestWashes_1 : decode cX3_fewestWashes 1 = .ok (.aload_n 1, 1) := by decide +kernel
theorem dX3_fewestWashes_2 : decode cX3_fewestWashes 2 = .ok (.aload_n 2, 1) := by decide +kernel
theorem dX3_fewestWashes_3 : decode cX3_fewestWashes 3 = .ok (.iconst 1, 1) := by decide +kernel
theorem dX3_fewestWashes_4 : decode cX3_fewestWashes 4 = .ok (.invokevirtual 44, 3) := by decide +kernel
theorem dX3_fewestWashes_7 : decode cX3_fewestWashes 7 = .ok (.aload_n 0, 1) := by decide +kernel
theorem dX3_fewestWashes_8 : decode cX3_fewestWashes 8 = .ok (.iconst 0, 1) := by decide +kernel
theorem dX3_fewestWashes_9 : decode cX3_fewestWashes 9 = .ok (.invokestatic 48, 3) := by decide +kernel
theorem dX3_fewestWashes_12 : decode cX3_fewestWashes 12 = .ok (.aload_n 0, 1) := by decide +kernel
theorem dX3_fewestWashes_13 : decode cX3_fewestWashes 13 = .ok (.getfield 52, 3) := by decide +kernel
theorem dX3_fewestWashes_16 : decode cX3_fewestWashes 16 = .ok (.ifCond .eq 10, 3) := by decide +kernel
theorem dX3_fewestWashes_19 : decode cX3_fewestWashes 19 = .ok (.aload_n 0, 1) := by decide +kernel
theorem dX3_fewestWashes_20 : decode cX3_fewestWashes 20 = .ok (.getfield 56, 3) := by decide +kernel
theorem dX3_fewestWashes_23 : decode cX3_fewestWashes 23 = .ok (.goto 4, 3) := by decide +kernel
theorem dX3_fewestWashes_26 : decode cX3_fewestWashes 26 = .ok (.iconst (-1), 1) := by decide +kernel
theorem dX3_fewestWashes_27 : decode cX3_fewestWashes 27 = .ok (.ireturn, 1) := by decide +kernel
theorem dX3_prepare_0 : decode cX3_prepare 0 = .ok (.aload_n 0, 1) := by decide +kernel
theorem dX3_prepare_1 : decode cX3_prepare 1 = .ok (.aload_n 1, 1) := by decide +kernel
theorem dX3_prepare_2 : decode cX3_prepare 2 = .ok (.putfield 60, 3) := by decide +kernel
theorem dX3_prepare_5 : decode cX3_prepare 5 = .ok (.aload_n 0, 1) := by decide +kernel
theorem dX3_prepare_6 : decode cX3_prepare 6 = .ok (.aload_n 2, 1) := by decide +kernel
theorem dX3_prepare_7 : decode cX3_prepare 7 = .ok (.putfield 64, 3) := by decide +kernel
theorem dX3_prepare_10 : decode cX3_prepare 10 = .ok (.aload_n 0, 1) := by decide +kernel
theorem dX3_prepare_11 : decode cX3_prepare 11 = .ok (.iload_n 3, 1) := by decide +kernel
theorem dX3_prepare_12 : decode cX3_prepare 12 = .ok (.putfield 68, 3) := by decide +kernel
theorem dX3_prepare_15 : decode cX3_prepare 15 = .ok (.aload_n 0, 1) := by decide +kernel
theorem dX3_prepare_16 : decode cX3_prepare 16 = .ok (.getfield 21, 3) := by decide +kernel
theorem dX3_prepare_19 : decode cX3_prepare 19 = .ok (.aload_n 0, 1) := by decide +kernel
theorem dX3_prepare_20 : decode cX3_prepare 20 = .ok (.getfield 64, 3) := by decide +kernel
theorem dX3_prepare_23 : decode cX3_prepare 23 = .ok (.getfield 71, 3) := by decide +kernel
theorem dX3_prepare_26 : decode cX3_prepare 26 = .ok (.invokevirtual 76, 3) := by decide +kernel
theorem dX3_prepare_29 : decode cX3_prepare 29 = .ok (.aload_n 0, 1) := by decide +kernel
theorem dX3_prepare_30 : decode cX3_prepare 30 = .ok (.iconst 0, 1) := by decide +kernel
theorem dX3_prepare_31 : decode cX3_prepare 31 = .ok (.putfield 80, 3) := by decide +kernel
theorem dX3_prepare_34 : decode cX3_prepare 34 = .ok (.aload_n 0, 1) := by decide +kernel
theorem dX3_prepare_35 : decode cX3_prepare 35 = .ok (.iconst 0, 1) := by decide +kernel
theorem dX3_prepare_36 : decode cX3_prepare 36 = .ok (.putfield 83, 3) := by decide +kernel
theorem dX3_prepare_39 : decode cX3_prepare 39 = .ok (.aload_n 0, 1) := by decide +kernel
theorem dX3_prepare_40 : decode cX3_prepare 40 = .ok (.iconst 0, 1) := by decide +kernel
theorem dX3_prepare_41 : decode cX3_prepare 41 = .ok (.putfield 52, 3) := by decide +kernel
theorem dX3_prepare_44 : decode cX3_prepare 44 = .ok (.aload_n 0, 1) := by decide +kernel
theorem dX3_prepare_45 : decode cX3_prepare 45 = .ok (.iconst 0, 1) := by decide +kernel
theorem dX3_prepare_46 : decode cX3_prepare 46 = .ok (.putfield 86, 3) := by decide +kernel
theorem dX3_prepare_49 : decode cX3_prepare 49 = .ok (.iconst 0, 1) := by decide +kernel
theorem dX3_prepare_50 : decode cX3_prepare 50 = .ok (.istore 4, 2) := by decide +kernel
theorem dX3_prepare_52 : decode cX3_prepare 52 = .ok (.iload 4, 2) := by decide +kernel
theorem dX3_prepare_54 : decode cX3_prepare 54 = .ok (.aload_n 0, 1) := by decide +kernel
theorem dX3_prepare_55 : decode cX3_prepare 55 = .ok (.getfield 64, 3) := by decide +kernel
theorem dX3_prepare_58 : decode cX3_prepare 58 = .ok (.getfield 89, 3) := by decide +kernel
theorem dX3_prepare_61 : decode cX3_prepare 61 = .ok (.if_icmp .ge 104, 3) := by decide +kernel
theorem dX3_prepare_64 : decode cX3_prepare 64 = .ok (.aload_n 0, 1) := by decide +kernel
theorem dX3_prepare_65 : decode cX3_prepare 65 = .ok (.getfield 86, 3) := by decide +kernel
theorem dX3_prepare_68 : decode cX3_prepare 68 = .ok (.iconst 4, 1) := by decide +kernel
theorem dX3_prepare_69 : decode cX3_prepare 69 = .ok (.if_icmp .ge 96, 3) := by decide +kernel
theorem dX3_prepare_72 : decode cX3_prepare 72 = .ok (.aload_n 0, 1) := by decide +kernel
theorem dX3_prepare_73 : decode cX3_prepare 73 = .ok (.getfield 64, 3) := by decide +kernel
theorem dX3_prepare_76 : decode cX3_prepare 76 = .ok (.aload_n 0, 1) := by decide +kernel
theorem dX3_prepare_77 : decode cX3_prepare 77 = .ok (.getfield 60, 3) := by decide +kernel
theorem dX3_prepare_80 : decode cX3_prepare 80 = .ok (.iload 4, 2) := by decide +kernel
theorem dX3_prepare_82 : decode cX3_prepare 82 = .ok (.invokevirtual 92, 3) := by decide +kernel
theorem dX3_prepare_85 : decode cX3_prepare 85 = .ok (.ifCond .ne 74, 3) := by decide +kernel
theorem dX3_prepare_88 : decode cX3_prepare 88 = .ok (.aload_n 0, 1) := by decide +kernel
theorem dX3_prepare_89 : decode cX3_prepare 89 = .ok (.getfield 25, 3) := by decide +kernel
theorem dX3_prepare_92 : decode cX3_prepare 92 = .ok (.aload_n 0, 1) := by decide +kernel
theorem dX3_prepare_93 : decode cX3_prepare 93 = .ok (.getfield 86, 3) := by decide +kernel
theorem dX3_prepare_96 : decode cX3_prepare 96 = .ok (.iload 4, 2) := by decide +kernel
theorem dX3_prepare_98 : decode cX3_prepare 98 = .ok (.iastore, 1) := by decide +kernel
theorem dX3_prepare_99 : decode cX3_prepare 99 = .ok (.aload_n 0, 1) := by decide +kernel
theorem dX3_prepare_100 : decode cX3_prepare 100 = .ok (.getfield 29, 3) := by decide +kernel
theorem dX3_prepare_103 : decode cX3_prepare 103 = .ok (.aload_n 0, 1) := by decide +kernel
theorem dX3_prepare_104 : decode cX3_prepare 104 = .ok (.getfield 86, 3) := by decide +kernel
theorem dX3_prepare_107 : decode cX3_prepare 107 = .ok (.aload_n 0, 1) := by decide +kernel
theorem dX3_prepare_108 : decode cX3_prepare 108 = .ok (.getfield 60, 3) := by decide +kernel
theorem dX3_prepare_111 : decode cX3_prepare 111 = .ok (.getfield 96, 3) := by decide +kernel
theorem dX3_prepare_114 : decode cX3_prepare 114 = .ok (.iload 4, 2) := by decide +kernel
theorem dX3_prepare_116 : decode cX3_prepare 116 = .ok (.iaload, 1) := by decide +kernel
theorem dX3_prepare_117 : decode cX3_prepare 117 = .ok (.aload_n 0, 1) := by decide +kernel
theorem dX3_prepare_118 : decode cX3_prepare 118 = .ok (.getfield 64, 3) := by decide +kernel
theorem dX3_prepare_121 : decode cX3_prepare 121 = .ok (.getfield 71, 3) := by decide +kernel
theorem dX3_prepare_124 : decode cX3_prepare 124 = .ok (.iload 4, 2) := by decide +kernel
theorem dX3_prepare_126 : decode cX3_prepare 126 = .ok (.invokevirtual 101, 3) := by decide +kernel
theorem dX3_prepare_129 : decode cX3_prepare 129 = .ok (.isub, 1) := by decide +kernel
theorem dX3_prepare_130 : decode cX3_prepare 130 = .ok (.iastore, 1) := by decide +kernel
theorem dX3_prepare_131 : decode cX3_prepare 131 = .ok (.aload_n 0, 1) := by decide +kernel
theorem dX3_prepare_132 : decode cX3_prepare 132 = .ok (.getfield 32, 3) := by decide +kernel
theorem dX3_prepare_135 : decode cX3_prepare 135 = .ok (.aload_n 0, 1) := by decide +kernel
theorem dX3_prepare_136 : decode cX3_prepare 136 = .ok (.getfield 86, 3) := by decide +kernel
theorem dX3_prepare_139 : decode cX3_prepare 139 = .ok (.aload_n 0, 1) := by decide +kernel
theorem dX3_prepare_140 : decode cX3_prepare 140 = .ok (.getfield 29, 3) := by decide +kernel
theorem dX3_prepare_143 : decode cX3_prepare 143 = .ok (.aload_n 0, 1) := by decide +kernel
theorem dX3_prepare_144 : decode cX3_prepare 144 = .ok (.getfield 86, 3) := by decide +kernel
theorem dX3_prepare_147 : decode cX3_prepare 147 = .ok (.iaload, 1) := by decide +kernel
theorem dX3_prepare_148 : decode cX3_prepare 148 = .ok (.iastore, 1) := by decide +kernel
theorem dX3_prepare_149 : decode cX3_prepare 149 = .ok (.aload_n 0, 1) := by decide +kernel
theorem dX3_prepare_150 : decode cX3_prepare 150 = .ok (.dup, 1) := by decide +kernel
theorem dX3_prepare_151 : decode cX3_prepare 151 = .ok (.getfield 86, 3) := by decide +kernel
theorem dX3_prepare_154 : decode cX3_prepare 154 = .ok (.iconst 1, 1) := by decide +kernel
theorem dX3_prepare_155 : decode cX3_prepare 155 = .ok (.iadd, 1) := by decide +kernel
theorem dX3_prepare_156 : decode cX3_prepare 156 = .ok (.putfield 86, 3) := by decide +kernel
theorem dX3_prepare_159 : decode cX3_prepare 159 = .ok (.iinc 4 1, 3) := by decide +kernel
theorem dX3_prepare_162 : decode cX3_prepare 162 = .ok (.goto (-110), 3) := by decide +kernel
theorem dX3_prepare_165 : decode cX3_prepare 165 = .ok (.aload_n 0, 1) := by decide +kernel
theorem dX3_prepare_166 : decode cX3_prepare 166 = .ok (.getfield 35, 3) := by decide +kernel
theorem dX3_prepare_169 : decode cX3_prepare 169 = .ok (.aload_n 0, 1) := by decide +kernel
theorem dX3_prepare_170 : decode cX3_prepare 170 = .ok (.getfield 60, 3) := by decide +kernel
theorem dX3_prepare_173 : decode cX3_prepare 173 = .ok (.getfield 105, 3) := by decide +kernel
theorem dX3_prepare_176 : decode cX3_prepare 176 = .ok (.iconst 0, 1) := by decide +kernel
theorem dX3_prepare_177 : decode cX3_prepare 177 = .ok (.iastore, 1) := by decide +kernel
theorem dX3_prepare_178 : decode cX3_prepare 178 = .ok (.aload_n 0, 1) := by decide +kernel
theorem dX3_prepare_179 : decode cX3_prepare 179 = .ok (.getfield 60, 3) := by decide +kernel
theorem dX3_prepare_182 : decode cX3_prepare 182 = .ok (.getfield 105, 3) := by decide +kernel
theorem dX3_prepare_185 : decode cX3_prepare 185 = .ok (.iconst 1, 1) := by decide +kernel
theorem dX3_prepare_186 : decode cX3_prepare 186 = .ok (.isub, 1) := by decide +kernel
theorem dX3_prepare_187 : decode cX3_prepare 187 = .ok (.istore 4, 2) := by decide +kernel
theorem dX3_prepare_189 : decode cX3_prepare 189 = .ok (.iload 4, 2) := by decide +kernel
theorem dX3_prepare_191 : decode cX3_prepare 191 = .ok (.ifCond .lt 52, 3) := by decide +kernel
theorem dX3_prepare_194 : decode cX3_prepare 194 = .ok (.aload_n 0, 1) := by decide +kernel
theorem dX3_prepare_195 : decode cX3_prepare 195 = .ok (.getfield 35, 3) := by decide +kernel
theorem dX3_prepare_198 : decode cX3_prepare 198 = .ok (.iload 4, 2) := by decide +kernel
theorem dX3_prepare_200 : decode cX3_prepare 200 = .ok (.aload_n 0, 1) := by decide +kernel
theorem dX3_prepare_201 : decode cX3_prepare 201 = .ok (.getfield 35, 3) := by decide +kernel
theorem dX3_prepare_204 : decode cX3_prepare 204 = .ok (.iload 4, 2) := by decide +kernel
theorem dX3_prepare_206 : decode cX3_prepare 206 = .ok (.iconst 1, 1) := by decide +kernel
theorem dX3_prepare_207 : decode cX3_prepare 207 = .ok (.iadd, 1) := by decide +kernel
theorem dX3_prepare_208 : decode cX3_prepare 208 = .ok (.iaload, 1) := by decide +kernel
theorem dX3_prepare_209 : decode cX3_prepare 209 = .ok (.aload_n 0, 1) := by decide +kernel
theorem dX3_prepare_210 : decode cX3_prepare 210 = .ok (.getfield 21, 3) := by decide +kernel
theorem dX3_prepare_213 : decode cX3_prepare 213 = .ok (.getfield 108, 3) := by decide +kernel
theorem dX3_prepare_216 : decode cX3_prepare 216 = .ok (.iload 4, 2) := by decide +kernel
theorem dX3_prepare_218 : decode cX3_prepare 218 = .ok (.iaload, 1) := by decide +kernel
theorem dX3_prepare_219 : decode cX3_prepare 219 = .ok (.ifCond .ne 15, 3) := by decide +kernel
theorem dX3_prepare_222 : decode cX3_prepare 222 = .ok (.aload_n 0, 1) := by decide +kernel
theorem dX3_prepare_223 : decode cX3_prepare 223 = .ok (.getfield 60, 3) := by decide +kernel
theorem dX3_prepare_226 : decode cX3_prepare 226 = .ok (.iload 4, 2) := by decide +kernel
theorem dX3_prepare_228 : decode cX3_prepare 228 = .ok (.invokevirtual 111, 3) := by decide +kernel
theorem dX3_prepare_231 : decode cX3_prepare 231 = .ok (.goto 4, 3) := by decide +kernel
theorem dX3_prepare_234 : decode cX3_prepare 234 = .ok (.iconst 0, 1) := by decide +kernel
theorem dX3_prepare_235 : decode cX3_prepare 235 = .ok (.iadd, 1) := by decide +kernel
theorem dX3_prepare_236 : decode cX3_prepare 236 = .ok (.iastore, 1) := by decide +kernel
theorem dX3_prepare_237 : decode cX3_prepare 237 = .ok (.iinc 4 (-1), 3) := by decide +kernel
theorem dX3_prepare_240 : decode cX3_prepare 240 = .ok (.goto (-51), 3) := by decide +kernel
theorem dX3_prepare_243 : decode cX3_prepare 243 = .ok (.return_, 1) := by decide +kernel
theorem dX3_deal_0 : decode cX3_deal 0 = .ok (.aload_n 0, 1) := by decide +kernel
theorem dX3_deal_1 : decode cX3_deal 1 = .ok (.iload_n 1, 1) := by decide +kernel
theorem dX3_deal_2 : decode cX3_deal 2 = .ok (.invokevirtual 114, 3) := by decide +kernel
theorem dX3_deal_5 : decode cX3_deal 5 = .ok (.ifCond .eq 4, 3) := by decide +kernel
theorem dX3_deal_8 : decode cX3_deal 8 = .ok (.return_, 1) := by decide +kernel
theorem dX3_deal_9 : decode cX3_deal 9 = .ok (.iload_n 1, 1) := by decide +kernel
theorem dX3_deal_10 : decode cX3_deal 10 = .ok (.aload_n 0, 1) := by decide +kernel
theorem dX3_deal_11 : decode cX3_deal 11 = .ok (.getfield 60, 3) := by decide +kernel
theorem dX3_deal_14 : decode cX3_deal 14 = .ok (.getfield 105, 3) := by decide +kernel
theorem dX3_deal_17 : decode cX3_deal 17 = .ok (.if_icmp .lt 8, 3) := by decide +kernel
theorem dX3_deal_20 : decode cX3_deal 20 = .ok (.aload_n 0, 1) := by decide +kernel
theorem dX3_deal_21 : decode cX3_deal 21 = .ok (.invokevirtual 118, 3) := by decide +kernel
theorem dX3_deal_24 : decode cX3_deal 24 = .ok (.return_, 1) := by decide +kernel
theorem dX3_deal_25 : decode cX3_deal 25 = .ok (.aload_n 0, 1) := by decide +kernel
theorem dX3_deal_26 : decode cX3_deal 26 = .ok (.getfield 21, 3) := by decide +kernel
theorem dX3_deal_29 : decode cX3_deal 29 = .ok (.getfield 108, 3) := by decide +kernel
theorem dX3_deal_32 : decode cX3_deal 32 = .ok (.iload_n 1, 1) := by decide +kernel
theorem dX3_deal_33 : decode cX3_deal 33 = .ok (.iaload, 1) := by decide +kernel
theorem dX3_deal_34 : decode cX3_deal 34 = .ok (.ifCond .ne 41, 3) := by decide +kernel
theorem dX3_deal_37 : decode cX3_deal 37 = .ok (.iconst 0, 1) := by decide +kernel
theorem dX3_deal_38 : decode cX3_deal 38 = .ok (.istore_n 2, 1) := by decide +kernel
theorem dX3_deal_39 : decode cX3_deal 39 = .ok (.iload_n 2, 1) := by decide +kernel
theorem dX3_deal_40 : decode cX3_deal 40 = .ok (.aload_n 0, 1) := by decide +kernel
theorem dX3_deal_41 : decode cX3_deal 41 = .ok (.getfield 86, 3) := by decide +kernel
theorem dX3_deal_44 : decode cX3_deal 44 = .ok (.if_icmp .ge 31, 3) := by decide +kernel
theorem dX3_deal_47 : decode cX3_deal 47 = .ok (.aload_n 0, 1) := by decide +kernel
theorem dX3_deal_48 : decode cX3_deal 48 = .ok (.iload_n 1, 1) := by decide +kernel
theorem dX3_deal_49 : decode cX3_deal 49 = .ok (.iload_n 2, 1) := by decide +kernel
theorem dX3_deal_50 : decode cX3_deal 50 = .ok (.invokevirtual 121, 3) := by decide +kernel
theorem dX3_deal_53 : decode cX3_deal 53 = .ok (.ifCond .eq 16, 3) := by decide +kernel
theorem dX3_deal_56 : decode cX3_deal 56 = .ok (.aload_n 0, 1) := by decide +kernel
theorem dX3_deal_57 : decode cX3_deal 57 = .ok (.iload_n 1, 1) := by decide +kernel
theorem dX3_deal_58 : decode cX3_deal 58 = .ok (.iconst 1, 1) := by decide +kernel
theorem dX3_deal_59 : decode cX3_deal 59 = .ok (.iadd, 1) := by decide +kernel
theorem dX3_deal_60 : decode cX3_deal 60 = .ok (.invokestatic 48, 3) := by decide +kernel
theorem dX3_deal_63 : decode cX3_deal 63 = .ok (.aload_n 0, 1) := by decide +kernel
theorem dX3_deal_64 : decode cX3_deal 64 = .ok (.iload_n 1, 1) := by decide +kernel
theorem dX3_deal_65 : decode cX3_deal 65 = .ok (.iload_n 2, 1) := by decide +kernel
theorem dX3_deal_66 : decode cX3_deal 66 = .ok (.invokevirtual 125, 3) := by decide +kernel
theorem dX3_deal_69 : decode cX3_deal 69 = .ok (.iinc 2 1, 3) := by decide +kernel
theorem dX3_deal_72 : decode cX3_deal 72 = .ok (.goto (-33), 3) := by decide +kernel
theorem dX3_deal_75 : decode cX3_deal 75 = .ok (.aload_n 0, 1) := by decide +kernel
theorem dX3_deal_76 : decode cX3_deal 76 = .ok (.iload_n 1, 1) := by decide +kernel
theorem dX3_deal_77 : decode cX3_deal 77 = .ok (.iconst 1, 1) := by decide +kernel
theorem dX3_deal_78 : decode cX3_deal 78 = .ok (.iadd, 1) := by decide +kernel
theorem dX3_deal_79 : decode cX3_deal 79 = .ok (.invokestatic 48, 3) := by decide +kernel
theorem dX3_deal_82 : decode cX3_deal 82 = .ok (.return_, 1) := by decide +kernel
theorem dX3_isHopeless_0 : decode cX3_isHopeless 0 = .ok (.aload_n 0, 1) := by decide +kernel
theorem dX3_isHopeless_1 : decode cX3_isHopeless 1 = .ok (.getfield 68, 3) := by decide +kernel
theorem dX3_isHopeless_4 : decode cX3_isHopeless 4 = .ok (.ifCond .eq 23, 3) := by decide +kernel
theorem dX3_isHopeless_7 : decode cX3_isHopeless 7 = .ok (.aload_n 0, 1) := by decide +kernel
theorem dX3_isHopeless_8 : decode cX3_isHopeless 8 = .ok (.getfield 52, 3) := by decide +kernel
theorem dX3_isHopeless_11 : decode cX3_isHopeless 11 = .ok (.ifCond .eq 16, 3) := by decide +kernel
theorem dX3_isHopeless_14 : decode cX3_isHopeless 14 = .ok (.aload_n 0, 1) := by decide +kernel
theorem dX3_isHopeless_15 : decode cX3_isHopeless 15 = .ok (.getfield 83, 3) := by decide +kernel
theorem dX3_isHopeless_18 : decode cX3_isHopeless 18 = .ok (.aload_n 0, 1) := by decide +kernel
theorem dX3_isHopeless_19 : decode cX3_isHopeless 19 = .ok (.getfield 56, 3) := by decide +kernel
theorem dX3_isHopeless_22 : decode cX3_isHopeless 22 = .ok (.if_icmp .lt 5, 3) := by decide +kernel
theorem dX3_isHopeless_25 : decode cX3_isHopeless 25 = .ok (.iconst 1, 1) := by decide +kernel
theorem dX3_isHopeless_26 : decode cX3_isHopeless 26 = .ok (.ireturn, 1) := by decide +kernel
theorem dX3_isHopeless_27 : decode cX3_isHopeless 27 = .ok (.iconst 0, 1) := by decide +kernel
theorem dX3_isHopeless_28 : decode cX3_isHopeless 28 = .ok (.istore_n 2, 1) := by decide +kernel
theorem dX3_isHopeless_29 : decode cX3_isHopeless 29 = .ok (.iconst 0, 1) := by decide +kernel
theorem dX3_isHopeless_30 : decode cX3_isHopeless 30 = .ok (.istore_n 3, 1) := by decide +kernel
theorem dX3_isHopeless_31 : decode cX3_isHopeless 31 = .ok (.iload_n 3, 1) := by decide +kernel
theorem dX3_isHopeless_32 : decode cX3_isHopeless 32 = .ok (.aload_n 0, 1) := by decide +kernel
theorem dX3_isHopeless_33 : decode cX3_isHopeless 33 = .ok (.getfield 86, 3) := by decide +kernel
theorem dX3_isHopeless_36 : decode cX3_isHopeless 36 = .ok (.if_icmp .ge 40, 3) := by decide +kernel
theorem dX3_isHopeless_39 : decode cX3_isHopeless 39 = .ok (.aload_n 0, 1) := by decide +kernel
theorem dX3_isHopeless_40 : decode cX3_isHopeless 40 = .ok (.getfield 68, 3) := by decide +kernel
theorem dX3_isHopeless_43 : decode cX3_isHopeless 43 = .ok (.ifCond .ne 18, 3) := by decide +kernel
theorem dX3_isHopeless_46 : decode cX3_isHopeless 46 = .ok (.aload_n 0, 1) := by decide +kernel
theorem dX3_isHopeless_47 : decode cX3_isHopeless 47 = .ok (.getfield 32, 3) := by decide +kernel
theorem dX3_isHopeless_50 : decode cX3_isHopeless 50 = .ok (.iload_n 3, 1) := by decide +kernel
theorem dX3_isHopeless_51 : decode cX3_isHopeless 51 = .ok (.iaload, 1) := by decide +kernel
theorem dX3_isHopeless_52 : decode cX3_isHopeless 52 = .ok (.aload_n 0, 1) := by decide +kernel
theorem dX3_isHopeless_53 : decode cX3_isHopeless 53 = .ok (.getfield 29, 3) := by decide +kernel
theorem dX3_isHopeless_56 : decode cX3_isHopeless 56 = .ok (.iload_n 3, 1) := by decide +kernel
theorem dX3_isHopeless_57 : decode cX3_isHopeless 57 = .ok (.iaload, 1) := by decide +kernel
theorem dX3_isHopeless_58 : decode cX3_isHopeless 58 = .ok (.if_icmp .ge 12, 3) := by decide +kernel
theorem dX3_isHopeless_61 : decode cX3_isHopeless 61 = .ok (.iload_n 2, 1) := by decide +kernel
theorem dX3_isHopeless_62 : decode cX3_isHopeless 62 = .ok (.aload_n 0, 1) := by decide +kernel
theorem dX3_isHopeless_63 : decode cX3_isHopeless 63 = .ok (.getfield 32, 3) := by decide +kernel
theorem dX3_isHopeless_66 : decode cX3_isHopeless 66 = .ok (.iload_n 3, 1) := by decide +kernel
theorem dX3_isHopeless_67 : decode cX3_isHopeless 67 = .ok (.iaload, 1) := by decide +kernel
theorem dX3_isHopeless_68 : decode cX3_isHopeless 68 = .ok (.iadd, 1) := by decide +kernel
theorem dX3_isHopeless_69 : decode cX3_isHopeless 69 = .ok (.istore_n 2, 1) := by decide +kernel
theorem dX3_isHopeless_70 : decode cX3_isHopeless 70 = .ok (.iinc 3 1, 3) := by decide +kernel
theorem dX3_isHopeless_73 : decode cX3_isHopeless 73 = .ok (.goto (-42), 3) := by decide +kernel
theorem dX3_isHopeless_76 : decode cX3_isHopeless 76 = .ok (.iload_n 2, 1) := by decide +kernel
theorem dX3_isHopeless_77 : decode cX3_isHopeless 77 = .ok (.aload_n 0, 1) := by decide +kernel
theorem dX3_isHopeless_78 : decode cX3_isHopeless 78 = .ok (.getfield 35, 3) := by decide +kernel
theorem dX3_isHopeless_81 : decode cX3_isHopeless 81 = .ok (.iload_n 1, 1) := by decide +kernel
theorem dX3_isHopeless_82 : decode cX3_isHopeless 82 = .ok (.iaload, 1) := by decide +kernel
theorem dX3_isHopeless_83 : decode cX3_isHopeless 83 = .ok (.if_icmp .le 7, 3) := by decide +kernel
theorem dX3_isHopeless_86 : decode cX3_isHopeless 86 = .ok (.iconst 1, 1) := by decide +kernel
theorem dX3_isHopeless_87 : decode cX3_isHopeless 87 = .ok (.goto 4, 3) := by decide +kernel
theorem dX3_isHopeless_90 : decode cX3_isHopeless 90 = .ok (.iconst 0, 1) := by decide +kernel
theorem dX3_isHopeless_91 : decode cX3_isHopeless 91 = .ok (.ireturn, 1) := by decide +kernel
theorem dX3_gives_0 : decode cX3_gives 0 = .ok (.aload_n 0, 1) := by decide +kernel
theorem dX3_gives_1 : decode cX3_gives 1 = .ok (.getfield 60, 3) := by decide +kernel
theorem dX3_gives_4 : decode cX3_gives 4 = .ok (.iload_n 1, 1) := by decide +kernel
theorem dX3_gives_5 : decode cX3_gives 5 = .ok (.invokevirtual 111, 3) := by decide +kernel
theorem dX3_gives_8 : decode cX3_gives 8 = .ok (.aload_n 0, 1) := by decide +kernel
theorem dX3_gives_9 : decode cX3_gives 9 = .ok (.getfield 32, 3) := by decide +kernel
theorem dX3_gives_12 : decode cX3_gives 12 = .ok (.iload_n 2, 1) := by decide +kernel
theorem dX3_gives_13 : decode cX3_gives 13 = .ok (.iaload, 1) := by decide +kernel
theorem dX3_gives_14 : decode cX3_gives 14 = .ok (.invokestatic 129, 3) := by decide +kernel
theorem dX3_gives_17 : decode cX3_gives 17 = .ok (.istore_n 3, 1) := by decide +kernel
theorem dX3_gives_18 : decode cX3_gives 18 = .ok (.iload_n 3, 1) := by decide +kernel
theorem dX3_gives_19 : decode cX3_gives 19 = .ok (.ifCond .ne 5, 3) := by decide +kernel
theorem dX3_gives_22 : decode cX3_gives 22 = .ok (.iconst 0, 1) := by decide +kernel
theorem dX3_gives_23 : decode cX3_gives 23 = .ok (.ireturn, 1) := by decide +kernel
theorem dX3_gives_24 : decode cX3_gives 24 = .ok (.aload_n 0, 1) := by decide +kernel
theorem dX3_gives_25 : decode cX3_gives 25 = .ok (.getfield 60, 3) := by decide +kernel
theorem dX3_gives_28 : decode cX3_gives 28 = .ok (.getfield 135, 3) := by decide +kernel
theorem dX3_gives_31 : decode cX3_gives 31 = .ok (.aload_n 0, 1) := by decide +kernel
theorem dX3_gives_32 : decode cX3_gives 32 = .ok (.getfield 25, 3) := by decide +kernel
theorem dX3_gives_35 : decode cX3_gives 35 = .ok (.iload_n 2, 1) := by decide +kernel
theorem dX3_gives_36 : decode cX3_gives 36 = .ok (.iaload, 1) := by decide +kernel
theorem dX3_gives_37 : decode cX3_gives 37 = .ok (.iaload, 1) := by decide +kernel
theorem dX3_gives_38 : decode cX3_gives 38 = .ok (.istore 4, 2) := by decide +kernel
theorem dX3_gives_40 : decode cX3_gives 40 = .ok (.aload_n 0, 1) := by decide +kernel
theorem dX3_gives_41 : decode cX3_gives 41 = .ok (.getfield 60, 3) := by decide +kernel
theorem dX3_gives_44 : decode cX3_gives 44 = .ok (.aload_n 0, 1) := by decide +kernel
theorem dX3_gives_45 : decode cX3_gives 45 = .ok (.getfield 21, 3) := by decide +kernel
theorem dX3_gives_48 : decode cX3_gives 48 = .ok (.getfield 138, 3) := by decide +kernel
theorem dX3_gives_51 : decode cX3_gives 51 = .ok (.iload_n 1, 1) := by decide +kernel
theorem dX3_gives_52 : decode cX3_gives 52 = .ok (.iaload, 1) := by decide +kernel
theorem dX3_gives_53 : decode cX3_gives 53 = .ok (.iload 4, 2) := by decide +kernel
theorem dX3_gives_55 : decode cX3_gives 55 = .ok (.invokevirtual 141, 3) := by decide +kernel
theorem dX3_gives_58 : decode cX3_gives 58 = .ok (.istore 5, 2) := by decide +kernel
theorem dX3_gives_60 : decode cX3_gives 60 = .ok (.iload 5, 2) := by decide +kernel
theorem dX3_gives_62 : decode cX3_gives 62 = .ok (.ifCond .eq 12, 3) := by decide +kernel
theorem dX3_gives_65 : decode cX3_gives 65 = .ok (.aload_n 0, 1) := by decide +kernel
theorem dX3_gives_66 : decode cX3_gives 66 = .ok (.getfield 68, 3) := by decide +kernel
theorem dX3_gives_69 : decode cX3_gives 69 = .ok (.ifCond .ne 5, 3) := by decide +kernel
theorem dX3_gives_72 : decode cX3_gives 72 = .ok (.iconst 0, 1) := by decide +kernel
theorem dX3_gives_73 : decode cX3_gives 73 = .ok (.ireturn, 1) := by decide +kernel
theorem dX3_gives_74 : decode cX3_gives 74 = .ok (.aload_n 0, 1) := by decide +kernel
theorem dX3_gives_75 : decode cX3_gives 75 = .ok (.getfield 21, 3) := by decide +kernel
theorem dX3_gives_78 : decode cX3_gives 78 = .ok (.aload_n 0, 1) := by decide +kernel
theorem dX3_gives_79 : decode cX3_gives 79 = .ok (.getfield 60, 3) := by decide +kernel
theorem dX3_gives_82 : decode cX3_gives 82 = .ok (.iload_n 1, 1) := by decide +kernel
theorem dX3_gives_83 : decode cX3_gives 83 = .ok (.aload_n 0, 1) := by decide +kernel
theorem dX3_gives_84 : decode cX3_gives 84 = .ok (.getfield 25, 3) := by decide +kernel
theorem dX3_gives_87 : decode cX3_gives 87 = .ok (.iload_n 2, 1) := by decide +kernel
theorem dX3_gives_88 : decode cX3_gives 88 = .ok (.iaload, 1) := by decide +kernel
theorem dX3_gives_89 : decode cX3_gives 89 = .ok (.iload 4, 2) := by decide +kernel
theorem dX3_gives_91 : decode cX3_gives 91 = .ok (.iload_n 3, 1) := by decide +kernel
theorem dX3_gives_92 : decode cX3_gives 92 = .ok (.invokevirtual 144, 3) := by decide +kernel
theorem dX3_gives_95 : decode cX3_gives 95 = .ok (.aload_n 0, 1) := by decide +kernel
theorem dX3_gives_96 : decode cX3_gives 96 = .ok (.getfield 32, 3) := by decide +kernel
theorem dX3_gives_99 : decode cX3_gives 99 = .ok (.iload_n 2, 1) := by decide +kernel
theorem dX3_gives_100 : decode cX3_gives 100 = .ok (.dup2, 1) := by decide +kernel
theorem dX3_gives_101 : decode cX3_gives 101 = .ok (.iaload, 1) := by decide +kernel
theorem dX3_gives_102 : decode cX3_gives 102 = .ok (.iload_n 3, 1) := by decide +kernel
theorem dX3_gives_103 : decode cX3_gives 103 = .ok (.isub, 1) := by decide +kernel
theorem dX3_gives_104 : decode cX3_gives 104 = .ok (.iastore, 1) := by decide +kernel
theorem dX3_gives_105 : decode cX3_gives 105 = .ok (.aload_n 0, 1) := by decide +kernel
theorem dX3_gives_106 : decode cX3_gives 106 = .ok (.dup, 1) := by decide +kernel
theorem dX3_gives_107 : decode cX3_gives 107 = .ok (.getfield 80, 3) := by decide +kernel
theorem dX3_gives_110 : decode cX3_gives 110 = .ok (.iconst 1, 1) := by decide +kernel
theorem dX3_gives_111 : decode cX3_gives 111 = .ok (.iadd, 1) := by decide +kernel
theorem dX3_gives_112 : decode cX3_gives 112 = .ok (.putfield 80, 3) := by decide +kernel
theorem dX3_gives_115 : decode cX3_gives 115 = .ok (.aload_n 0, 1) := by decide +kernel
theorem dX3_gives_116 : decode cX3_gives 116 = .ok (.dup, 1) := by decide +kernel
theorem dX3_gives_117 : decode cX3_gives 117 = .ok (.getfield 83, 3) := by decide +kernel
theorem dX3_gives_120 : decode cX3_gives 120 = .ok (.iload 5, 2) := by decide +kernel
theorem dX3_gives_122 : decode cX3_gives 122 = .ok (.ifCond .eq 7, 3) := by decide +kernel
theorem dX3_gives_125 : decode cX3_gives 125 = .ok (.iconst 1, 1) := by decide +kernel
theorem dX3_gives_126 : decode cX3_gives 126 = .ok (.goto 4, 3) := by decide +kernel
theorem dX3_gives_129 : decode cX3_gives 129 = .ok (.iconst 0, 1) := by decide +kernel
theorem dX3_gives_130 : decode cX3_gives 130 = .ok (.iadd, 1) := by decide +kernel
theorem dX3_gives_131 : decode cX3_gives 131 = .ok (.putfield 83, 3) := by decide +kernel
theorem dX3_gives_134 : decode cX3_gives 134 = .ok (.iconst 1, 1) := by decide +kernel
theorem dX3_gives_135 : decode cX3_gives 135 = .ok (.ireturn, 1) := by decide +kernel
theorem dX3_takeBack_0 : decode cX3_takeBack 0 = .ok (.aload_n 0, 1) := by decide +kernel
theorem dX3_takeBack_1 : decode cX3_takeBack 1 = .ok (.getfield 64, 3) := by decide +kernel
theorem dX3_takeBack_4 : decode cX3_takeBack 4 = .ok (.getfield 71, 3) := by decide +kernel
theorem dX3_takeBack_7 : decode cX3_takeBack 7 = .ok (.getfield 138, 3) := by decide +kernel
theorem dX3_takeBack_10 : decode cX3_takeBack 10 = .ok (.iload_n 1, 1) := by decide +kernel
theorem dX3_takeBack_11 : decode cX3_takeBack 11 = .ok (.iaload, 1) := by decide +kernel
theorem dX3_takeBack_12 : decode cX3_takeBack 12 = .ok (.istore_n 3, 1) := by decide +kernel
theorem dX3_takeBack_13 : decode cX3_takeBack 13 = .ok (.aload_n 0, 1) := by decide +kernel
theorem dX3_takeBack_14 : decode cX3_takeBack 14 = .ok (.getfield 32, 3) := by decide +kernel
theorem dX3_takeBack_17 : decode cX3_takeBack 17 = .ok (.iload_n 2, 1) := by decide +kernel
theorem dX3_takeBack_18 : decode cX3_takeBack 18 = .ok (.dup2, 1) := by decide +kernel
theorem dX3_takeBack_19 : decode cX3_takeBack 19 = .ok (.iaload, 1) := by decide +kernel
theorem dX3_takeBack_20 : decode cX3_takeBack 20 = .ok (.aload_n 0, 1) := by decide +kernel
theorem dX3_takeBack_21 : decode cX3_takeBack 21 = .ok (.getfield 21, 3) := by decide +kernel
theorem dX3_takeBack_24 : decode cX3_takeBack 24 = .ok (.getfield 108, 3) := by decide +kernel
theorem dX3_takeBack_27 : decode cX3_takeBack 27 = .ok (.iload_n 1, 1) := by decide +kernel
theorem dX3_takeBack_28 : decode cX3_takeBack 28 = .ok (.iaload, 1) := by decide +kernel
theorem dX3_takeBack_29 : decode cX3_takeBack 29 = .ok (.iadd, 1) := by decide +kernel
theorem dX3_takeBack_30 : decode cX3_takeBack 30 = .ok (.iastore, 1) := by decide +kernel
theorem dX3_takeBack_31 : decode cX3_takeBack 31 = .ok (.aload_n 0, 1) := by decide +kernel
theorem dX3_takeBack_32 : decode cX3_takeBack 32 = .ok (.getfield 21, 3) := by decide +kernel
theorem dX3_takeBack_35 : decode cX3_takeBack 35 = .ok (.iload_n 1, 1) := by decide +kernel
theorem dX3_takeBack_36 : decode cX3_takeBack 36 = .ok (.invokevirtual 148, 3) := by decide +kernel
theorem dX3_takeBack_39 : decode cX3_takeBack 39 = .ok (.aload_n 0, 1) := by decide +kernel
theorem dX3_takeBack_40 : decode cX3_takeBack 40 = .ok (.getfield 21, 3) := by decide +kernel
theorem dX3_takeBack_43 : decode cX3_takeBack 43 = .ok (.getfield 138, 3) := by decide +kernel
theorem dX3_takeBack_46 : decode cX3_takeBack 46 = .ok (.iload_n 1, 1) := by decide +kernel
theorem dX3_takeBack_47 : decode cX3_takeBack 47 = .ok (.iload_n 3, 1) := by decide +kernel
theorem dX3_takeBack_48 : decode cX3_takeBack 48 = .ok (.iastore, 1) := by decide +kernel
theorem dX3_takeBack_49 : decode cX3_takeBack 49 = .ok (.aload_n 0, 1) := by decide +kernel
theorem dX3_takeBack_50 : decode cX3_takeBack 50 = .ok (.dup, 1) := by decide +kernel
theorem dX3_takeBack_51 : decode cX3_takeBack 51 = .ok (.getfield 80, 3) := by decide +kernel
theorem dX3_takeBack_54 : decode cX3_takeBack 54 = .ok (.iconst 1, 1) := by decide +kernel
theorem dX3_takeBack_55 : decode cX3_takeBack 55 = .ok (.isub, 1) := by decide +kernel
theorem dX3_takeBack_56 : decode cX3_takeBack 56 = .ok (.putfield 80, 3) := by decide +kernel
theorem dX3_takeBack_59 : decode cX3_takeBack 59 = .ok (.aload_n 0, 1) := by decide +kernel
theorem dX3_takeBack_60 : decode cX3_takeBack 60 = .ok (.dup, 1) := by decide +kernel
theorem dX3_takeBack_61 : decode cX3_takeBack 61 = .ok (.getfield 83, 3) := by decide +kernel
theorem dX3_takeBack_64 : decode cX3_takeBack 64 = .ok (.aload_n 0, 1) := by decide +kernel
theorem dX3_takeBack_65 : decode cX3_takeBack 65 = .ok (.getfield 60, 3) := by decide +kernel
theorem dX3_takeBack_68 : decode cX3_takeBack 68 = .ok (.iload_n 3, 1) := by decide +kernel
theorem dX3_takeBack_69 : decode cX3_takeBack 69 = .ok (.aload_n 0, 1) := by decide +kernel
theorem dX3_takeBack_70 : decode cX3_takeBack 70 = .ok (.getfield 60, 3) := by decide +kernel
theorem dX3_takeBack_73 : decode cX3_takeBack 73 = .ok (.getfield 135, 3) := by decide +kernel
theorem dX3_takeBack_76 : decode cX3_takeBack 76 = .ok (.aload_n 0, 1) := by decide +kernel
theorem dX3_takeBack_77 : decode cX3_takeBack 77 = .ok (.getfield 25, 3) := by decide +kernel
theorem dX3_takeBack_80 : decode cX3_takeBack 80 = .ok (.iload_n 2, 1) := by decide +kernel
theorem dX3_takeBack_81 : decode cX3_takeBack 81 = .ok (.iaload, 1) := by decide +kernel
theorem dX3_takeBack_82 : decode cX3_takeBack 82 = .ok (.iaload, 1) := by decide +kernel
theorem dX3_takeBack_83 : decode cX3_takeBack 83 = .ok (.invokevirtual 141, 3) := by decide +kernel
theorem dX3_takeBack_86 : decode cX3_takeBack 86 = .ok (.ifCond .eq 7, 3) := by decide +kernel
theorem dX3_takeBack_89 : decode cX3_takeBack 89 = .ok (.iconst 1, 1) := by decide +kernel
theorem dX3_takeBack_90 : decode cX3_takeBack 90 = .ok (.goto 4, 3) := by decide +kernel
theorem dX3_takeBack_93 : decode cX3_takeBack 93 = .ok (.iconst 0, 1) := by decide +kernel
theorem dX3_takeBack_94 : decode cX3_takeBack 94 = .ok (.isub, 1) := by decide +kernel
theorem dX3_takeBack_95 : decode cX3_takeBack 95 = .ok (.putfield 83, 3) := by decide +kernel
theorem dX3_takeBack_98 : decode cX3_takeBack 98 = .ok (.return_, 1) := by decide +kernel
theorem dX3_consider_0 : decode cX3_consider 0 = .ok (.iconst 0, 1) := by decide +kernel
theorem dX3_consider_1 : decode cX3_consider 1 = .ok (.istore_n 1, 1) := by decide +kernel
theorem dX3_consider_2 : decode cX3_consider 2 = .ok (.iconst 0, 1) := by decide +kernel
theorem dX3_consider_3 : decode cX3_consider 3 = .ok (.istore_n 2, 1) := by decide +kernel
theorem dX3_consider_4 : decode cX3_consider 4 = .ok (.iload_n 2, 1) := by decide +kernel
theorem dX3_consider_5 : decode cX3_consider 5 = .ok (.aload_n 0, 1) := by decide +kernel
theorem dX3_consider_6 : decode cX3_consider 6 = .ok (.getfield 86, 3) := by decide +kernel
theorem dX3_consider_9 : decode cX3_consider 9 = .ok (.if_icmp .ge 26, 3) := by decide +kernel
theorem dX3_consider_12 : decode cX3_consider 12 = .ok (.iload_n 1, 1) := by decide +kernel
theorem dX3_consider_13 : decode cX3_consider 13 = .ok (.aload_n 0, 1) := by decide +kernel
theorem dX3_consider_14 : decode cX3_consider 14 = .ok (.getfield 32, 3) := by decide +kernel
theorem dX3_consider_17 : decode cX3_consider 17 = .ok (.iload_n 2, 1) := by decide +kernel
theorem dX3_consider_18 : decode cX3_consider 18 = .ok (.iaload, 1) := by decide +kernel
theorem dX3_consider_19 : decode cX3_consider 19 = .ok (.ifCond .ne 7, 3) := by decide +kernel
theorem dX3_consider_22 : decode cX3_consider 22 = .ok (.iconst 1, 1) := by decide +kernel
theorem dX3_consider_23 : decode cX3_consider 23 = .ok (.goto 4, 3) := by decide +kernel
theorem dX3_consider_26 : decode cX3_consider 26 = .ok (.iconst 0, 1) := by decide +kernel
theorem dX3_consider_27 : decode cX3_consider 27 = .ok (.iadd, 1) := by decide +kernel
theorem dX3_consider_28 : decode cX3_consider 28 = .ok (.istore_n 1, 1) := by decide +kernel
theorem dX3_consider_29 : decode cX3_consider 29 = .ok (.iinc 2 1, 3) := by decide +kernel
theorem dX3_consider_32 : decode cX3_consider 32 = .ok (.goto (-28), 3) := by decide +kernel
theorem dX3_consider_35 : decode cX3_consider 35 = .ok (.aload_n 0, 1) := by decide +kernel
theorem dX3_consider_36 : decode cX3_consider 36 = .ok (.iload_n 1, 1) := by decide +kernel
theorem dX3_consider_37 : decode cX3_consider 37 = .ok (.invokevirtual 152, 3) := by decide +kernel
theorem dX3_consider_40 : decode cX3_consider 40 = .ok (.ifCond .eq 73, 3) := by decide +kernel
theorem dX3_consider_43 : decode cX3_consider 43 = .ok (.aload_n 0, 1) := by decide +kernel
theorem dX3_consider_44 : decode cX3_consider 44 = .ok (.getfield 21, 3) := by decide +kernel
theorem dX3_consider_47 : decode cX3_consider 47 = .ok (.aload_n 0, 1) := by decide +kernel
theorem dX3_consider_48 : decode cX3_consider 48 = .ok (.getfield 60, 3) := by decide +kernel
theorem dX3_consider_51 : decode cX3_consider 51 = .ok (.iconst 0, 1) := by decide +kernel
theorem dX3_consider_52 : decode cX3_consider 52 = .ok (.invokevirtual 155, 3) := by decide +kernel
theorem dX3_consider_55 : decode cX3_consider 55 = .ok (.ifCond .ne 58, 3) := by decide +kernel
theorem dX3_consider_58 : decode cX3_consider 58 = .ok (.aload_n 0, 1) := by decide +kernel
theorem dX3_consider_59 : decode cX3_consider 59 = .ok (.getfield 12, 3) := by decide +kernel
theorem dX3_consider_62 : decode cX3_consider 62 = .ok (.aload_n 0, 1) := by decide +kernel
theorem dX3_consider_63 : decode cX3_consider 63 = .ok (.getfield 60, 3) := by decide +kernel
theorem dX3_consider_66 : decode cX3_consider 66 = .ok (.aload_n 0, 1) := by decide +kernel
theorem dX3_consider_67 : decode cX3_consider 67 = .ok (.getfield 21, 3) := by decide +kernel
theorem dX3_consider_70 : decode cX3_consider 70 = .ok (.aload_n 0, 1) := by decide +kernel
theorem dX3_consider_71 : decode cX3_consider 71 = .ok (.getfield 64, 3) := by decide +kernel
theorem dX3_consider_74 : decode cX3_consider 74 = .ok (.getfield 89, 3) := by decide +kernel
theorem dX3_consider_77 : decode cX3_consider 77 = .ok (.invokevirtual 158, 3) := by decide +kernel
theorem dX3_consider_80 : decode cX3_consider 80 = .ok (.ifCond .le 33, 3) := by decide +kernel
theorem dX3_consider_83 : decode cX3_consider 83 = .ok (.aload_n 0, 1) := by decide +kernel
theorem dX3_consider_84 : decode cX3_consider 84 = .ok (.iconst 1, 1) := by decide +kernel
theorem dX3_consider_85 : decode cX3_consider 85 = .ok (.putfield 52, 3) := by decide +kernel
theorem dX3_consider_88 : decode cX3_consider 88 = .ok (.aload_n 0, 1) := by decide +kernel
theorem dX3_consider_89 : decode cX3_consider 89 = .ok (.aload_n 0, 1) := by decide +kernel
theorem dX3_consider_90 : decode cX3_consider 90 = .ok (.getfield 83, 3) := by decide +kernel
theorem dX3_consider_93 : decode cX3_consider 93 = .ok (.putfield 56, 3) := by decide +kernel
theorem dX3_consider_96 : decode cX3_consider 96 = .ok (.aload_n 0, 1) := by decide +kernel
theorem dX3_consider_97 : decode cX3_consider 97 = .ok (.iload_n 1, 1) := by decide +kernel
theorem dX3_consider_98 : decode cX3_consider 98 = .ok (.putfield 162, 3) := by decide +kernel
theorem dX3_consider_101 : decode cX3_consider 101 = .ok (.aload_n 0, 1) := by decide +kernel
theorem dX3_consider_102 : decode cX3_consider 102 = .ok (.aload_n 0, 1) := by decide +kernel
theorem dX3_consider_103 : decode cX3_consider 103 = .ok (.getfield 80, 3) := by decide +kernel
theorem dX3_consider_106 : decode cX3_consider 106 = .ok (.putfield 165, 3) := by decide +kernel
theorem dX3_consider_109 : decode cX3_consider 109 = .ok (.aload_n 0, 1) := by decide +kernel
theorem dX3_consider_110 : decode cX3_consider 110 = .ok (.invokevirtual 168, 3) := by decide +kernel
theorem dX3_consider_113 : decode cX3_consider 113 = .ok (.return_, 1) := by decide +kernel
theorem dX3_isBetter_0 : decode cX3_isBetter 0 = .ok (.aload_n 0, 1) := by decide +kernel
theorem dX3_isBetter_1 : decode cX3_isBetter 1 = .ok (.getfield 52, 3) := by decide +kernel
theorem dX3_isBetter_4 : decode cX3_isBetter 4 = .ok (.ifCond .eq 37, 3) := by decide +kernel
theorem dX3_isBetter_7 : decode cX3_isBetter 7 = .ok (.aload_n 0, 1) := by decide +kernel
theorem dX3_isBetter_8 : decode cX3_isBetter 8 = .ok (.getfield 68, 3) := by decide +kernel
theorem dX3_isBetter_11 : decode cX3_isBetter 11 = .ok (.ifCond .ne 30, 3) := by decide +kernel
theorem dX3_isBetter_14 : decode cX3_isBetter 14 = .ok (.iload_n 1, 1) := by decide +kernel
theorem dX3_isBetter_15 : decode cX3_isBetter 15 = .ok (.aload_n 0, 1) := by decide +kernel
theorem dX3_isBetter_16 : decode cX3_isBetter 16 = .ok (.getfield 162, 3) := by decide +kernel
theorem dX3_isBetter_19 : decode cX3_isBetter 19 = .ok (.if_icmp .gt 22, 3) := by decide +kernel
theorem dX3_isBetter_22 : decode cX3_isBetter 22 = .ok (.iload_n 1, 1) := by decide +kernel
theorem dX3_isBetter_23 : decode cX3_isBetter 23 = .ok (.aload_n 0, 1) := by decide +kernel
theorem dX3_isBetter_24 : decode cX3_isBetter 24 = .ok (.getfield 162, 3) := by decide +kernel
theorem dX3_isBetter_27 : decode cX3_isBetter 27 = .ok (.if_icmp .ne 18, 3) := by decide +kernel
theorem dX3_isBetter_30 : decode cX3_isBetter 30 = .ok (.aload_n 0, 1) := by decide +kernel
theorem dX3_isBetter_31 : decode cX3_isBetter 31 = .ok (.getfield 80, 3) := by decide +kernel
theorem dX3_isBetter_34 : decode cX3_isBetter 34 = .ok (.aload_n 0, 1) := by decide +kernel
theorem dX3_isBetter_35 : decode cX3_isBetter 35 = .ok (.getfield 165, 3) := by decide +kernel
theorem dX3_isBetter_38 : decode cX3_isBetter 38 = .ok (.if_icmp .ge 7, 3) := by decide +kernel
theorem dX3_isBetter_41 : decode cX3_isBetter 41 = .ok (.iconst 1, 1) := by decide +kernel
theorem dX3_isBetter_42 : decode cX3_isBetter 42 = .ok (.goto 4, 3) := by decide +kernel
theorem dX3_isBetter_45 : decode cX3_isBetter 45 = .ok (.iconst 0, 1) := by decide +kernel
theorem dX3_isBetter_46 : decode cX3_isBetter 46 = .ok (.ireturn, 1) := by decide +kernel
theorem dX3_keepDeal_0 : decode cX3_keepDeal 0 = .ok (.iconst 0, 1) := by decide +kernel
theorem dX3_keepDeal_1 : decode cX3_keepDeal 1 = .ok (.istore_n 1, 1) := by decide +kernel
theorem dX3_keepDeal_2 : decode cX3_keepDeal 2 = .ok (.iload_n 1, 1) := by decide +kernel
theorem dX3_keepDeal_3 : decode cX3_keepDeal 3 = .ok (.aload_n 0, 1) := by decide +kernel
theorem dX3_keepDeal_4 : decode cX3_keepDeal 4 = .ok (.getfield 60, 3) := by decide +kernel
theorem dX3_keepDeal_7 : decode cX3_keepDeal 7 = .ok (.getfield 105, 3) := by decide +kernel
theorem dX3_keepDeal_10 : decode cX3_keepDeal 10 = .ok (.if_icmp .ge 88, 3) := by decide +kernel
theorem dX3_keepDeal_13 : decode cX3_keepDeal 13 = .ok (.aload_n 0, 1) := by decide +kernel
theorem dX3_keepDeal_14 : decode cX3_keepDeal 14 = .ok (.getfield 64, 3) := by decide +kernel
theorem dX3_keepDeal_17 : decode cX3_keepDeal 17 = .ok (.getfield 71, 3) := by decide +kernel
theorem dX3_keepDeal_20 : decode cX3_keepDeal 20 = .ok (.getfield 108, 3) := by decide +kernel
theorem dX3_keepDeal_23 : decode cX3_keepDeal 23 = .ok (.iload_n 1, 1) := by decide +kernel
theorem dX3_keepDeal_24 : decode cX3_keepDeal 24 = .ok (.iaload, 1) := by decide +kernel
theorem dX3_keepDeal_25 : decode cX3_keepDeal 25 = .ok (.ifCond .ne 19, 3) := by decide +kernel
theorem dX3_keepDeal_28 : decode cX3_keepDeal 28 = .ok (.aload_n 0, 1) := by decide +kernel
theorem dX3_keepDeal_29 : decode cX3_keepDeal 29 = .ok (.getfield 21, 3) := by decide +kernel
theorem dX3_keepDeal_32 : decode cX3_keepDeal 32 = .ok (.getfield 108, 3) := by decide +kernel
theorem dX3_keepDeal_35 : decode cX3_keepDeal 35 = .ok (.iload_n 1, 1) := by decide +kernel
theorem dX3_keepDeal_36 : decode cX3_keepDeal 36 = .ok (.iaload, 1) := by decide +kernel
theorem dX3_keepDeal_37 : decode cX3_keepDeal 37 = .ok (.ifCond .le 7, 3) := by decide +kernel
theorem dX3_keepDeal_40 : decode cX3_keepDeal 40 = .ok (.iconst 1, 1) := by decide +kernel
theorem dX3_keepDeal_41 : decode cX3_keepDeal 41 = .ok (.goto 4, 3) := by decide +kernel
theorem dX3_keepDeal_44 : decode cX3_keepDeal 44 = .ok (.iconst 0, 1) := by decide +kernel
theorem dX3_keepDeal_45 : decode cX3_keepDeal 45 = .ok (.istore_n 2, 1) := by decide +kernel
theorem dX3_keepDeal_46 : decode cX3_keepDeal 46 = .ok (.aload_n 0, 1) := by decide +kernel
theorem dX3_keepDeal_47 : decode cX3_keepDeal 47 = .ok (.getfield 38, 3) := by decide +kernel
theorem dX3_keepDeal_50 : decode cX3_keepDeal 50 = .ok (.iload_n 1, 1) := by decide +kernel
theorem dX3_keepDeal_51 : decode cX3_keepDeal 51 = .ok (.iload_n 2, 1) := by decide +kernel
theorem dX3_keepDeal_52 : decode cX3_keepDeal 52 = .ok (.ifCond .eq 15, 3) := by decide +kernel
theorem dX3_keepDeal_55 : decode cX3_keepDeal 55 = .ok (.aload_n 0, 1) := by decide +kernel
theorem dX3_keepDeal_56 : decode cX3_keepDeal 56 = .ok (.getfield 21, 3) := by decide +kernel
theorem dX3_keepDeal_59 : decode cX3_keepDeal 59 = .ok (.getfield 171, 3) := by decide +kernel
theorem dX3_keepDeal_62 : decode cX3_keepDeal 62 = .ok (.iload_n 1, 1) := by decide +kernel
theorem dX3_keepDeal_63 : decode cX3_keepDeal 63 = .ok (.iaload, 1) := by decide +kernel
theorem dX3_keepDeal_64 : decode cX3_keepDeal 64 = .ok (.goto 4, 3) := by decide +kernel
theorem dX3_keepDeal_67 : decode cX3_keepDeal 67 = .ok (.iconst (-1), 1) := by decide +kernel
theorem dX3_keepDeal_68 : decode cX3_keepDeal 68 = .ok (.iastore, 1) := by decide +kernel
theorem dX3_keepDeal_69 : decode cX3_keepDeal 69 = .ok (.aload_n 0, 1) := by decide +kernel
theorem dX3_keepDeal_70 : decode cX3_keepDeal 70 = .ok (.getfield 41, 3) := by decide +kernel
theorem dX3_keepDeal_73 : decode cX3_keepDeal 73 = .ok (.iload_n 1, 1) := by decide +kernel
theorem dX3_keepDeal_74 : decode cX3_keepDeal 74 = .ok (.iload_n 2, 1) := by decide +kernel
theorem dX3_keepDeal_75 : decode cX3_keepDeal 75 = .ok (.ifCond .eq 15, 3) := by decide +kernel
theorem dX3_keepDeal_78 : decode cX3_keepDeal 78 = .ok (.aload_n 0, 1) := by decide +kernel
theorem dX3_keepDeal_79 : decode cX3_keepDeal 79 = .ok (.getfield 21, 3) := by decide +kernel
theorem dX3_keepDeal_82 : decode cX3_keepDeal 82 = .ok (.getfield 108, 3) := by decide +kernel
theorem dX3_keepDeal_85 : decode cX3_keepDeal 85 = .ok (.iload_n 1, 1) := by decide +kernel
theorem dX3_keepDeal_86 : decode cX3_keepDeal 86 = .ok (.iaload, 1) := by decide +kernel
theorem dX3_keepDeal_87 : decode cX3_keepDeal 87 = .ok (.goto 4, 3) := by decide +kernel
theorem dX3_keepDeal_90 : decode cX3_keepDeal 90 = .ok (.iconst 0, 1) := by decide +kernel
theorem dX3_keepDeal_91 : decode cX3_keepDeal 91 = .ok (.iastore, 1) := by decide +kernel
theorem dX3_keepDeal_92 : decode cX3_keepDeal 92 = .ok (.iinc 1 1, 3) := by decide +kernel
theorem dX3_keepDeal_95 : decode cX3_keepDeal 95 = .ok (.goto (-93), 3) := by decide +kernel
theorem dX3_keepDeal_98 : decode cX3_keepDeal 98 = .ok (.return_, 1) := by decide +kernel
theorem dX4_init_0 : decode cX4_init 0 = .ok (.aload_n 0, 1) := by decide +kernel
theorem dX4_init_1 : decode cX4_init 1 = .ok (.invokespecial 3, 3) := by decide +kernel
theorem dX4_init_4 : decode cX4_init 4 = .ok (.aload_n 0, 1) := by decide +kernel
theorem dX4_init_5 : decode cX4_init 5 = .ok (.iconst 5, 1) := by decide +kernel
theorem dX4_init_6 : decode cX4_init 6 = .ok (.newarray .int, 2) := by decide +kernel
theorem dX4_init_8 : decode cX4_init 8 = .ok (.putfield 9, 3) := by decide +kernel
theorem dX4_init_11 : decode cX4_init 11 = .ok (.return_, 1) := by decide +kernel
theorem dX4_reads_0 : decode cX4_reads 0 = .ok (.aload_n 0, 1) := by decide +kernel
theorem dX4_reads_1 : decode cX4_reads 1 = .ok (.aload_n 1, 1) := by decide +kernel
theorem dX4_reads_2 : decode cX4_reads 2 = .ok (.putfield 15, 3) := by decide +kernel
theorem dX4_reads_5 : decode cX4_reads 5 = .ok (.aload_n 0, 1) := by decide +kernel
theorem dX4_reads_6 : decode cX4_reads 6 = .ok (.iload_n 2, 1) := by decide +kernel
theorem dX4_reads_7 : decode cX4_reads 7 = .ok (.putfield 19, 3) := by decide +kernel
theorem dX4_reads_10 : decode cX4_reads 10 = .ok (.aload_n 0, 1) := by decide +kernel
theorem dX4_reads_11 : decode cX4_reads 11 = .ok (.iconst 0, 1) := by decide +kernel
theorem dX4_reads_12 : decode cX4_reads 12 = .ok (.putfield 23, 3) := by decide +kernel
theorem dX4_reads_15 : decode cX4_reads 15 = .ok (.aload_n 0, 1) := by decide +kernel
theorem dX4_reads_16 : decode cX4_reads 16 = .ok (.iconst 0, 1) := by decide +kernel
theorem dX4_reads_17 : decode cX4_reads 17 = .ok (.putfield 26, 3) := by decide +kernel
theorem dX4_reads_20 : decode cX4_reads 20 = .ok (.aload_n 0, 1) := by decide +kernel
theorem dX4_reads_21 : decode cX4_reads 21 = .ok (.aload_n 3, 1) := by decide +kernel
theorem dX4_reads_22 : decode cX4_reads 22 = .ok (.putfield 29, 3) := by decide +kernel
theorem dX4_reads_25 : decode cX4_reads 25 = .ok (.aload_n 0, 1) := by decide +kernel
theorem dX4_reads_26 : decode cX4_reads 26 = .ok (.getfield 29, 3) := by decide +kernel
theorem dX4_reads_29 : decode cX4_reads 29 = .ok (.invokevirtual 33, 3) := by decide +kernel
theorem dX4_reads_32 : decode cX4_reads 32 = .ok (.aload_n 0, 1) := by decide +kernel
theorem dX4_reads_33 : decode cX4_reads 33 = .ok (.getfield 9, 3) := by decide +kernel
theorem dX4_reads_36 : decode cX4_reads 36 = .ok (.iconst 0, 1) := by decide +kernel
theorem dX4_reads_37 : decode cX4_reads 37 = .ok (.invokestatic 38, 3) := by decide +kernel
theorem dX4_reads_40 : decode cX4_reads 40 = .ok (.iconst 0, 1) := by decide +kernel
theorem dX4_reads_41 : decode cX4_reads 41 = .ok (.istore 4, 2) := by decide +kernel
theorem dX4_reads_43 : decode cX4_reads 43 = .ok (.iload 4, 2) := by decide +kernel
theorem dX4_reads_45 : decode cX4_reads 45 = .ok (.sipush 740, 3) := by decide +kernel
theorem dX4_reads_48 : decode cX4_reads 48 = .ok (.if_icmp .ge 67, 3) := by decide +kernel
theorem dX4_reads_51 : decode cX4_reads 51 = .ok (.aload_n 0, 1) := by decide +kernel
theorem dX4_reads_52 : decode cX4_reads 52 = .ok (.invokevirtual 44, 3) := by decide +kernel
theorem dX4_reads_55 : decode cX4_reads 55 = .ok (.aload_n 0, 1) := by decide +kernel
theorem dX4_reads_56 : decode cX4_reads 56 = .ok (.getfield 47, 3) := by decide +kernel
theorem dX4_reads_59 : decode cX4_reads 59 = .ok (.iconst 4, 1) := by decide +kernel
theorem dX4_reads_60 : decode cX4_reads 60 = .ok (.if_icmp .ne 5, 3) := by decide +kernel
theorem dX4_reads_63 : decode cX4_reads 63 = .ok (.iconst 1, 1) := by decide +kernel
theorem dX4_reads_64 : decode cX4_reads 64 = .ok (.ireturn, 1) := by decide +kernel
theorem dX4_reads_65 : decode cX4_reads 65 = .ok (.aload_n 0, 1) := by decide +kernel
theorem dX4_reads_66 : decode cX4_reads 66 = .ok (.getfield 26, 3) := by decide +kernel
theorem dX4_reads_69 : decode cX4_reads 69 = .ok (.ifCond .ne 10, 3) := by decide +kernel
theorem dX4_reads_72 : decode cX4_reads 72 = .ok (.aload_n 0, 1) := by decide +kernel
theorem dX4_reads_73 : decode cX4_reads 73 = .ok (.invokevirtual 50, 3) := by decide +kernel
theorem dX4_reads_76 : decode cX4_reads 76 = .ok (.goto 7, 3) := by decide +kernel
theorem dX4_reads_79 : decode cX4_reads 79 = .ok (.aload_n 0, 1) := by decide +kernel
theorem dX4_reads_80 : decode cX4_reads 80 = .ok (.invokevirtual 54, 3) := by decide +kernel
theorem dX4_reads_83 : decode cX4_reads 83 = .ok (.istore 5, 2) := by decide +kernel
theorem dX4_reads_85 : decode cX4_reads 85 = .ok (.iload 5, 2) := by decide +kernel
theorem dX4_reads_87 : decode cX4_reads 87 = .ok (.ifCond .eq 10, 3) := by decide +kernel
theorem dX4_reads_90 : decode cX4_reads 90 = .ok (.aload_n 0, 1) := by decide +kernel
theorem dX4_reads_91 : decode cX4_reads 91 = .ok (.invokevirtual 57, 3) := by decide +kernel
theorem dX4_reads_94 : decode cX4_reads 94 = .ok (.ifCond .ne 5, 3) := by decide +kernel
theorem dX4_reads_97 : decode cX4_reads 97 = .ok (.iconst 0, 1) := by decide +kernel
theorem dX4_reads_98 : decode cX4_reads 98 = .ok (.ireturn, 1) := by decide +kernel
theorem dX4_reads_99 : decode cX4_reads 99 = .ok (.aload_n 0, 1) := by decide +kernel
theorem dX4_reads_100 : decode cX4_reads 100 = .ok (.dup, 1) := by decide +kernel
theorem dX4_reads_101 : decode cX4_reads 101 = .ok (.getfield 26, 3) := by decide +kernel
theorem dX4_reads_104 : decode cX4_reads 104 = .ok (.iconst 1, 1) := by decide +kernel
theorem dX4_reads_105 : decode cX4_reads 105 = .ok (.iadd, 1) := by decide +kernel
theorem dX4_reads_106 : decode cX4_reads 106 = .ok (.putfield 26, 3) := by decide +kernel
theorem dX4_reads_109 : decode cX4_reads 109 = .ok (.iinc 4 1, 3) := by decide +kernel
theorem dX4_reads_112 : decode cX4_reads 112 = .ok (.goto (-69), 3) := by decide +kernel
theorem dX4_reads_115 : decode cX4_reads 115 = .ok (.aload_n 0, 1) := by decide +kernel
theorem dX4_reads_116 : decode cX4_reads 116 = .ok (.iconst 1, 1) := by decide +kernel
theorem dX4_reads_117 : decode cX4_reads 117 = .ok (.invokevirtual 60, 3) := by decide +kernel
theorem dX4_reads_120 : decode cX4_reads 120 = .ok (.ireturn, 1) := by decide +kernel
theorem dX4_refuse_0 : decode cX4_refuse 0 = .ok (.aload_n 0, 1) := by decide +kernel
theorem dX4_refuse_1 : decode cX4_refuse 1 = .ok (.iload_n 1, 1) := by decide +kernel
theorem dX4_refuse_2 : decode cX4_refuse 2 = .ok (.putfield 64, 3) := by decide +kernel
theorem dX4_refuse_5 : decode cX4_refuse 5 = .ok (.aload_n 0, 1) := by decide +kernel
theorem dX4_refuse_6 : decode cX4_refuse 6 = .ok (.aload_n 0, 1) := by decide +kernel
theorem dX4_refuse_7 : decode cX4_refuse 7 = .ok (.getfield 67, 3) := by decide +kernel
theorem dX4_refuse_10 : decode cX4_refuse 10 = .ok (.putfield 70, 3) := by decide +kernel
theorem dX4_refuse_13 : decode cX4_refuse 13 = .ok (.iconst 0, 1) := by decide +kernel
theorem dX4_refuse_14 : decode cX4_refuse 14 = .ok (.ireturn, 1) := by decide +kernel
theorem dX4_readSign_0 : decode cX4_readSign 0 = .ok (.aload_n 0, 1) := by decide +kernel
theorem dX4_readSign_1 : decode cX4_readSign 1 = .ok (.invokevirtual 44, 3) := by decide +kernel
theorem dX4_readSign_4 : decode cX4_readSign 4 = .ok (.aload_n 0, 1) := by decide +kernel
theorem dX4_readSign_5 : decode cX4_readSign 5 = .ok (.getfield 47, 3) := by decide +kernel
theorem dX4_readSign_8 : decode cX4_readSign 8 = .ok (.iconst 3, 1) := by decide +kernel
theorem dX4_readSign_9 : decode cX4_readSign 9 = .ok (.if_icmp .eq 11, 3) := by decide +kernel
theorem dX4_readSign_12 : decode cX4_readSign 12 = .ok (.aload_n 0, 1) := by decide +kernel
theorem dX4_readSign_13 : decode cX4_readSign 13 = .ok (.iconst 1, 1) := by decide +kernel
theorem dX4_readSign_14 : decode cX4_readSign 14 = .ok (.invokevirtual 60, 3) := by decide +kernel
theorem dX4_readSign_17 : decode cX4_readSign 17 = .ok (.ifCond .eq 7, 3) := by decide +kernel
theorem dX4_readSign_20 : decode cX4_readSign 20 = .ok (.iconst 1, 1) := by decide +kernel
theorem dX4_readSign_21 : decode cX4_readSign 21 = .ok (.goto 4, 3) := by decide +kernel
theorem dX4_readSign_24 : decode cX4_readSign 24 = .ok (.iconst 0, 1) := by decide +kernel
theorem dX4_readSign_25 : decode cX4_readSign 25 = .ok (.ireturn, 1) := by decide +kernel
theorem dX4_readTanker_0 : decode cX4_readTanker 0 = .ok (.aload_n 0, 1) := by decide +kernel
theorem dX4_readTanker_1 : decode cX4_readTanker 1 = .ok (.ldc 73, 2) := by decide +kernel
theorem dX4_readTanker_3 : decode cX4_readTanker 3 = .ok (.invokevirtual 75, 3) := by decide +kernel
theorem dX4_readTanker_6 : decode cX4_readTanker 6 = .ok (.ifCond .ne 9, 3) := by decide +kernel
theorem dX4_readTanker_9 : decode cX4_readTanker 9 = .ok (.aload_n 0, 1) := by decide +kernel
theorem dX4_readTanker_10 : decode cX4_readTanker 10 = .ok (.iconst 1, 1) := by decide +kernel
theorem dX4_readTanker_11 : decode cX4_readTanker 11 = .ok (.invokevirtual 60, 3) := by decide +kernel
theorem dX4_readTanker_14 : decode cX4_readTanker 14 = .ok (.ireturn, 1) := by decide +kernel
theorem dX4_readTanker_15 : decode cX4_readTanker 15 = .ok (.iconst 0, 1) := by decide +kernel
theorem dX4_readTanker_16 : decode cX4_readTanker 16 = .ok (.istore_n 1, 1) := by decide +kernel
theorem dX4_readTanker_17 : decode cX4_readTanker 17 = .ok (.iload_n 1, 1) := by decide +kernel
theorem dX4_readTanker_18 : decode cX4_readTanker 18 = .ok (.bipush 9, 2) := by decide +kernel
theorem dX4_readTanker_20 : decode cX4_readTanker 20 = .ok (.if_icmp .ge 62, 3) := by decide +kernel
theorem dX4_readTanker_23 : decode cX4_readTanker 23 = .ok (.iload_n 1, 1) := by decide +kernel
theorem dX4_readTanker_24 : decode cX4_readTanker 24 = .ok (.bipush 8, 2) := by decide +kernel
theorem dX4_readTanker_26 : decode cX4_readTanker 26 = .ok (.if_icmp .ne 16, 3) := by decide +kernel
theorem dX4_readTanker_29 : decode cX4_readTanker 29 = .ok (.aload_n 0, 1) := by decide +kernel
theorem dX4_readTanker_30 : decode cX4_readTanker 30 = .ok (.getfield 29, 3) := by decide +kernel
theorem dX4_readTanker_33 : decode cX4_readTanker 33 = .ok (.getfield 79, 3) := by decide +kernel
theorem dX4_readTanker_36 : decode cX4_readTanker 36 = .ok (.bipush 7, 2) := by decide +kernel
theorem dX4_readTanker_38 : decode cX4_readTanker 38 = .ok (.iaload, 1) := by decide +kernel
theorem dX4_readTanker_39 : decode cX4_readTanker 39 = .ok (.goto 8, 3) := by decide +kernel
theorem dX4_readTanker_42 : decode cX4_readTanker 42 = .ok (.getstatic 82, 3) := by decide +kernel
theorem dX4_readTanker_45 : decode cX4_readTanker 45 = .ok (.iload_n 1, 1) := by decide +kernel
theorem dX4_readTanker_46 : decode cX4_readTanker 46 = .ok (.iaload, 1) := by decide +kernel
theorem dX4_readTanker_47 : decode cX4_readTanker 47 = .ok (.istore_n 2, 1) := by decide +kernel
theorem dX4_readTanker_48 : decode cX4_readTanker 48 = .ok (.aload_n 0, 1) := by decide +kernel
theorem dX4_readTanker_49 : decode cX4_readTanker 49 = .ok (.iload_n 2, 1) := by decide +kernel
theorem dX4_readTanker_50 : decode cX4_readTanker 50 = .ok (.getstatic 85, 3) := by decide +kernel
theorem dX4_readTanker_53 : decode cX4_readTanker 53 = .ok (.iload_n 1, 1) := by decide +kernel
theorem dX4_readTanker_54 : decode cX4_readTanker 54 = .ok (.iaload, 1) := by decide +kernel
theorem dX4_readTanker_55 : decode cX4_readTanker 55 = .ok (.invokevirtual 88, 3) := by decide +kernel
theorem dX4_readTanker_58 : decode cX4_readTanker 58 = .ok (.ifCond .ne 5, 3) := by decide +kernel
theorem dX4_readTanker_61 : decode cX4_readTanker 61 = .ok (.iconst 0, 1) := by decide +kernel
theorem dX4_readTanker_62 : decode cX4_readTanker 62 = .ok (.ireturn, 1) := by decide +kernel
theorem dX4_readTanker_63 : decode cX4_readTanker 63 = .ok (.aload_n 0, 1) := by decide +kernel
theorem dX4_readTanker_64 : decode cX4_readTanker 64 = .ok (.getfield 29, 3) := by decide +kernel
theorem dX4_readTanker_67 : decode cX4_readTanker 67 = .ok (.getfield 79, 3) := by decide +kernel
theorem dX4_readTanker_70 : decode cX4_readTanker 70 = .ok (.iload_n 1, 1) := by decide +kernel
theorem dX4_readTanker_71 : decode cX4_readTanker 71 = .ok (.aload_n 0, 1) := by decide +kernel
theorem dX4_readTanker_72 : decode cX4_readTanker 72 = .ok (.getfield 92, 3) := by decide +kernel
theorem dX4_readTanker_75 : decode cX4_readTanker 75 = .ok (.iastore, 1) := by decide +kernel
theorem dX4_readTanker_76 : decode cX4_readTanker 76 = .ok (.iinc 1 1, 3) := by decide +kernel
theorem dX4_readTanker_79 : decode cX4_readTanker 79 = .ok (.goto (-62), 3) := by decide +kernel
theorem dX4_readTanker_82 : decode cX4_readTanker 82 = .ok (.iconst 1, 1) := by decide +kernel
theorem dX4_readTanker_83 : decode cX4_readTanker 83 = .ok (.ireturn, 1) := by decide +kernel
theorem dX4_readOther_0 : decode cX4_readOther 0 = .ok (.aload_n 0, 1) := by decide +kernel
theorem dX4_readOther_1 : decode cX4_readOther 1 = .ok (.invokevirtual 95, 3) := by decide +kernel
theorem dX4_readOther_4 : decode cX4_readOther 4 = .ok (.istore_n 1, 1) := by decide +kernel
theorem dX4_readOther_5 : decode cX4_readOther 5 = .ok (.iload_n 1, 1) := by decide +kernel
theorem dX4_readOther_6 : decode cX4_readOther 6 = .ok (.iconst (-1), 1) := by decide +kernel
theorem dX4_readOther_7 : decode cX4_readOther 7 = .ok (.if_icmp .ne 9, 3) := by decide +kernel
theorem dX4_readOther_10 : decode cX4_readOther 10 = .ok (.aload_n 0, 1) := by decide +kernel
theorem dX4_readOther_11 : decode cX4_readOther 11 = .ok (.iconst 1, 1) := by decide +kernel
theorem dX4_readOther_12 : decode cX4_readOther 12 = .ok (.invokevirtual 60, 3) := by decide +kernel
theorem dX4_readOther_15 : decode cX4_readOther 15 = .ok (.ireturn, 1) := by decide +kernel
theorem dX4_readOther_16 : decode cX4_readOther 16 = .ok (.aload_n 0, 1) := by decide +kernel
theorem dX4_readOther_17 : decode cX4_readOther 17 = .ok (.getfield 9, 3) := by decide +kernel
theorem dX4_readOther_20 : decode cX4_readOther 20 = .ok (.iload_n 1, 1) := by decide +kernel
theorem dX4_readOther_21 : decode cX4_readOther 21 = .ok (.iaload, 1) := by decide +kernel
theorem dX4_readOther_22 : decode cX4_readOther 22 = .ok (.getstatic 99, 3) := by decide +kernel
theorem dX4_readOther_25 : decode cX4_readOther 25 = .ok (.iload_n 1, 1) := by decide +kernel
theorem dX4_readOther_26 : decode cX4_readOther 26 = .ok (.iaload, 1) := by decide +kernel
theorem dX4_readOther_27 : decode cX4_readOther 27 = .ok (.if_icmp .lt 9, 3) := by decide +kernel
theorem dX4_readOther_30 : decode cX4_readOther 30 = .ok (.aload_n 0, 1) := by decide +kernel
theorem dX4_readOther_31 : decode cX4_readOther 31 = .ok (.iconst 3, 1) := by decide +kernel
theorem dX4_readOther_32 : decode cX4_readOther 32 = .ok (.invokevirtual 60, 3) := by decide +kernel
theorem dX4_readOther_35 : decode cX4_readOther 35 = .ok (.ireturn, 1) := by decide +kernel
theorem dX4_readOther_36 : decode cX4_readOther 36 = .ok (.aload_n 0, 1) := by decide +kernel
theorem dX4_readOther_37 : decode cX4_readOther 37 = .ok (.getfield 9, 3) := by decide +kernel
theorem dX4_readOther_40 : decode cX4_readOther 40 = .ok (.iload_n 1, 1) := by decide +kernel
theorem dX4_readOther_41 : decode cX4_readOther 41 = .ok (.dup2, 1) := by decide +kernel
theorem dX4_readOther_42 : decode cX4_readOther 42 = .ok (.iaload, 1) := by decide +kernel
theorem dX4_readOther_43 : decode cX4_readOther 43 = .ok (.iconst 1, 1) := by decide +kernel
theorem dX4_readOther_44 : decode cX4_readOther 44 = .ok (.iadd, 1) := by decide +kernel
theorem dX4_readOther_45 : decode cX4_readOther 45 = .ok (.iastore, 1) := by decide +kernel
theorem dX4_readOther_46 : decode cX4_readOther 46 = .ok (.iload_n 1, 1) := by decide +kernel
theorem dX4_readOther_47 : decode cX4_readOther 47 = .ok (.tableswitch 49 0 3 #[29, 34, 39, 44], 29) := by decide +kernel
theorem dX4_readOther_76 : decode cX4_readOther 76 = .ok (.aload_n 0, 1) := by decide +kernel
theorem dX4_readOther_77 : decode cX4_readOther 77 = .ok (.invokevirtual 102, 3) := by decide +kernel
theorem dX4_readOther_80 : decode cX4_readOther 80 = .ok (.ireturn, 1) := by decide +kernel
theorem dX4_readOther_81 : decode cX4_readOther 81 = .ok (.aload_n 0, 1) := by decide +kernel
theorem dX4_readOther_82 : decode cX4_readOther 82 = .ok (.invokevirtual 105, 3) := by decide +kernel
theorem dX4_readOther_85 : decode cX4_readOther 85 = .ok (.ireturn, 1) := by decide +kernel
theorem dX4_readOther_86 : decode cX4_readOther 86 = .ok (.aload_n 0, 1) := by decide +kernel
theorem dX4_readOther_87 : decode cX4_readOther 87 = .ok (.invokevirtual 108, 3) := by decide +kernel
theorem dX4_readOther_90 : decode cX4_readOther 90 = .ok (.ireturn, 1) := by decide +kernel
theorem dX4_readOther_91 : decode cX4_readOther 91 = .ok (.aload_n 0, 1) := by decide +kernel
theorem dX4_readOther_92 : decode cX4_readOther 92 = .ok (.invokevirtual 111, 3) := by decide +kernel
theorem dX4_readOther_95 : decode cX4_readOther 95 = .ok (.ireturn, 1) := by decide +kernel
theorem dX4_readOther_96 : decode cX4_readOther 96 = .ok (.aload_n 0, 1) := by decide +kernel
theorem dX4_readOther_97 : decode cX4_readOther 97 = .ok (.invokevirtual 114, 3) := by decide +kernel
theorem dX4_readOther_100 : decode cX4_readOther 100 = .ok (.ireturn, 1) := by decide +kernel
theorem dX4_sortOfWord_0 : decode cX4_sortOfWord 0 = .ok (.aload_n 0, 1) := by decide +kernel
theorem dX4_sortOfWord_1 : decode cX4_sortOfWord 1 = .ok (.ldc 117, 2) := by decide +kernel
theorem dX4_sortOfWord_3 : decode cX4_sortOfWord 3 = .ok (.invokevirtual 75, 3) := by decide +kernel
theorem dX4_sortOfWord_6 : decode cX4_sortOfWord 6 = .ok (.ifCond .eq 5, 3) := by decide +kernel
theorem dX4_sortOfWord_9 : decode cX4_sortOfWord 9 = .ok (.iconst 0, 1) := by decide +kernel
theorem dX4_sortOfWord_10 : decode cX4_sortOfWord 10 = .ok (.ireturn, 1) := by decide +kernel
theorem dX4_sortOfWord_11 : decode cX4_sortOfWord 11 = .ok (.aload_n 0, 1) := by decide +kernel
theorem dX4_sortOfWord_12 : decode cX4_sortOfWord 12 = .ok (.ldc 119, 2) := by decide +kernel
theorem dX4_sortOfWord_14 : decode cX4_sortOfWord 14 = .ok (.invokevirtual 75, 3) := by decide +kernel
theorem dX4_sortOfWord_17 : decode cX4_sortOfWord 17 = .ok (.ifCond .eq 5, 3) := by decide +kernel
theorem dX4_sortOfWord_20 : decode cX4_sortOfWord 20 = .ok (.iconst 1, 1) := by decide +kernel
theorem dX4_sortOfWord_21 : decode cX4_sortOfWord 21 = .ok (.ireturn, 1) := by decide +kernel
theorem dX4_sortOfWord_22 : decode cX4_sortOfWord 22 = .ok (.aload_n 0, 1) := by decide +kernel
theorem dX4_sortOfWord_23 : decode cX4_sortOfWord 23 = .ok (.ldc 121, 2) := by decide +kernel
theorem dX4_sortOfWord_25 : decode cX4_sortOfWord 25 = .ok (.invokevirtual 75, 3) := by decide +kernel
theorem dX4_sortOfWord_28 : decode cX4_sortOfWord 28 = .ok (.ifCond .eq 5, 3) := by decide +kernel
theorem dX4_sortOfWord_31 : decode cX4_sortOfWord 31 = .ok (.iconst 2, 1) := by decide +kernel
theorem dX4_sortOfWord_32 : decode cX4_sortOfWord 32 = .ok (.ireturn, 1) := by decide +kernel
theorem dX4_sortOfWord_33 : decode cX4_sortOfWord 33 = .ok (.aload_n 0, 1) := by decide +kernel
theorem dX4_sortOfWord_34 : decode cX4_sortOfWord 34 = .ok (.ldc 123, 2) := by decide +kernel
theorem dX4_sortOfWord_36 : decode cX4_sortOfWord 36 = .ok (.invokevirtual 75, 3) := by decide +kernel
theorem dX4_sortOfWord_39 : decode cX4_sortOfWord 39 = .ok (.ifCond .eq 5, 3) := by decide +kernel
theorem dX4_sortOfWord_42 : decode cX4_sortOfWord 42 = .ok (.iconst 3, 1) := by decide +kernel
theorem dX4_sortOfWord_43 : decode cX4_sortOfWord 43 = .ok (.ireturn, 1) := by decide +kernel
theorem dX4_sortOfWord_44 : decode cX4_sortOfWord 44 = .ok (.aload_n 0, 1) := by decide +kernel
theorem dX4_sortOfWord_45 : decode cX4_sortOfWord 45 = .ok (.ldc 125, 2) := by decide +kernel
theorem dX4_sortOfWord_47 : decode cX4_sortOfWord 47 = .ok (.invokevirtual 75, 3) := by decide +kernel
theorem dX4_sortOfWord_50 : decode cX4_sortOfWord 50 = .ok (.ifCond .eq 7, 3) := by decide +kernel
theorem dX4_sortOfWord_53 : decode cX4_sortOfWord 53 = .ok (.iconst 4, 1) := by decide +kernel
theorem dX4_sortOfWord_54 : decode cX4_sortOfWord 54 = .ok (.goto 4, 3) := by decide +kernel
theorem dX4_sortOfWord_57 : decode cX4_sortOfWord 57 = .ok (.iconst (-1), 1) := by decide +kernel
theorem dX4_sortOfWord_58 : decode cX4_sortOfWord 58 = .ok (.ireturn, 1) := by decide +kernel
theorem dX4_readCompartment_0 : decode cX4_readCompartment 0 = .ok (.aload_n 0, 1) := by decide +kernel
theorem dX4_readCompartment_1 : decode cX4_readCompartment 1 = .ok (.iconst 1, 1) := by decide +kernel
theorem dX4_readCompartment_2 : decode cX4_readCompartment 2 = .ok (.sipush 999, 3) := by decide +kernel
theorem dX4_readCompartment_5 : decode cX4_readCompartment 5 = .ok (.invokevirtual 88, 3) := by decide +kernel
theorem dX4_readCompartment_8 : decode cX4_readCompartment 8 = .ok (.ifCond .ne 5, 3) := by decide +kernel
theorem dX4_readCompartment_11 : decode cX4_readCompartment 11 = .ok (.iconst 0, 1) := by decide +kernel
theorem dX4_readCompartment_12 : decode cX4_readCompartment 12 = .ok (.ireturn, 1) := by decide +kernel
theorem dX4_readCompartment_13 : decode cX4_readCompartment 13 = .ok (.aload_n 0, 1) := by decide +kernel
theorem dX4_readCompartment_14 : decode cX4_readCompartment 14 = .ok (.getfield 29, 3) := by decide +kernel
theorem dX4_readCompartment_17 : decode cX4_readCompartment 17 = .ok (.getfield 127, 3) := by decide +kernel
theorem dX4_readCompartment_20 : decode cX4_readCompartment 20 = .ok (.aload_n 0, 1) := by decide +kernel
theorem dX4_readCompartment_21 : decode cX4_readCompartment 21 = .ok (.getfield 29, 3) := by decide +kernel
theorem dX4_readCompartment_24 : decode cX4_readCompartment 24 = .ok (.getfield 130, 3) := by decide +kernel
theorem dX4_readCompartment_27 : decode cX4_readCompartment 27 = .ok (.aload_n 0, 1) := by decide +kernel
theorem dX4_readCompartment_28 : decode cX4_readCompartment 28 = .ok (.getfield 92, 3) := by decide +kernel
theorem dX4_readCompartment_31 : decode cX4_readCompartment 31 = .ok (.iastore, 1) := by decide +kernel
theorem dX4_readCompartment_32 : decode cX4_readCompartment 32 = .ok (.aload_n 0, 1) := by decide +kernel
theorem dX4_readCompartment_33 : decode cX4_readCompartment 33 = .ok (.iconst 0, 1) := by decide +kernel
theorem dX4_readCompartment_34 : decode cX4_readCompartment 34 = .ok (.bipush 99, 2) := by decide +kernel
theorem dX4_readCompartment_36 : decode cX4_readCompartment 36 = .ok (.invokevirtual 88, 3) := by decide +kernel
theorem dX4_readCompartment_39 : decode cX4_readCompartment 39 = .ok (.ifCond .ne 5, 3) := by decide +kernel
theorem dX4_readCompartment_42 : decode cX4_readCompartment 42 = .ok (.iconst 0, 1) := by decide +kernel
theorem dX4_readCompartment_43 : decode cX4_readCompartment 43 = .ok (.ireturn, 1) := by decide +kernel
theorem dX4_readCompartment_44 : decode cX4_readCompartment 44 = .ok (.aload_n 0, 1) := by decide +kernel
theorem dX4_readCompartment_45 : decode cX4_readCompartment 45 = .ok (.getfield 29, 3) := by decide +kernel
theorem dX4_readCompartment_48 : decode cX4_readCompartment 48 = .ok (.getfield 133, 3) := by decide +kernel
theorem dX4_readCompartment_51 : decode cX4_readCompartment 51 = .ok (.aload_n 0, 1) := by decide +kernel
theorem dX4_readCompartment_52 : decode cX4_readCompartment 52 = .ok (.getfield 29, 3) := by decide +kernel
theorem dX4_readCompartment_55 : decode cX4_readCompartment 55 = .ok (.getfield 130, 3) := by decide +kernel
theorem dX4_readCompartment_58 : decode cX4_readCompartment 58 = .ok (.aload_n 0, 1) := by decide +kernel
theorem dX4_readCompartment_59 : decode cX4_readCompartment 59 = .ok (.getfield 92, 3) := by decide +kernel
theorem dX4_readCompartment_62 : decode cX4_readCompartment 62 = .ok (.iastore, 1) := by decide +kernel
theorem dX4_readCompartment_63 : decode cX4_readCompartment 63 = .ok (.aload_n 0, 1) := by decide +kernel
theorem dX4_readCompartment_64 : decode cX4_readCompartment 64 = .ok (.invokevirtual 44, 3) := by decide +kernel
theorem dX4_readCompartment_67 : decode cX4_readCompartment 67 = .ok (.aload_n 0, 1) := by decide +kernel
theorem dX4_readCompartment_68 : decode cX4_readCompartment 68 = .ok (.ldc 136, 2) := by decide +kernel
theorem dX4_readCompartment_70 : decode cX4_readCompartment 70 = .ok (.invokevirtual 75, 3) := by decide +kernel
theorem dX4_readCompartment_73 : decode cX4_readCompartment 73 = .ok (.istore_n 1, 1) := by decide +kernel
theorem dX4_readCompartment_74 : decode cX4_readCompartment 74 = .ok (.iload_n 1, 1) := by decide +kernel
theorem dX4_readCompartment_75 : decode cX4_readCompartment 75 = .ok (.ifCond .ne 18, 3) := by decide +kernel
theorem dX4_readCompartment_78 : decode cX4_readCompartment 78 = .ok (.aload_n 0, 1) := by decide +kernel
theorem dX4_readCompartment_79 : decode cX4_readCompartment 79 = .ok (.ldc 138, 2) := by decide +kernel
theorem dX4_readCompartment_81 : decode cX4_readCompartment 81 = .ok (.invokevirtual 75, 3) := by decide +kernel
theorem dX4_readCompartment_84 : decode cX4_readCompartment 84 = .ok (.ifCond .ne 9, 3) := by decide +kernel
theorem dX4_readCompartment_87 : decode cX4_readCompartment 87 = .ok (.aload_n 0, 1) := by decide +kernel
theorem dX4_readCompartment_88 : decode cX4_readCompartment 88 = .ok (.iconst 1, 1) := by decide +kernel
theorem dX4_readCompartment_89 : decode cX4_readCompartment 89 = .ok (.invokevirtual 60, 3) := by decide +kernel
theorem dX4_readCompartment_92 : decode cX4_readCompartment 92 = .ok (.ireturn, 1) := by decide +kernel
theorem dX4_readCompartment_93 : decode cX4_readCompartment 93 = .ok (.aload_n 0, 1) := by decide +kernel
theorem dX4_readCompartment_94 : decode cX4_readCompartment 94 = .ok (.getfield 29, 3) := by decide +kernel
theorem dX4_readCompartment_97 : decode cX4_readCompartment 97 = .ok (.getfield 140, 3) := by decide +kernel
theorem dX4_readCompartment_100 : decode cX4_readCompartment 100 = .ok (.aload_n 0, 1) := by decide +kernel
theorem dX4_readCompartment_101 : decode cX4_readCompartment 101 = .ok (.getfield 29, 3) := by decide +kernel
theorem dX4_readCompartment_104 : decode cX4_readCompartment 104 = .ok (.getfield 130, 3) := by decide +kernel
theorem dX4_readCompartment_107 : decode cX4_readCompartment 107 = .ok (.iload_n 1, 1) := by decide +kernel
theorem dX4_readCompartment_108 : decode cX4_readCompartment 108 = .ok (.ifCond .eq 7, 3) := by decide +kernel
theorem dX4_readCompartment_111 : decode cX4_readCompartment 111 = .ok (.iconst 1, 1) := by decide +kernel
theorem dX4_readCompartment_112 : decode cX4_readCompartment 112 = .ok (.goto 4, 3) := by decide +kernel
theorem dX4_readCompartment_115 : decode cX4_readCompartment 115 = .ok (.iconst 0, 1) := by decide +kernel
theorem dX4_readCompartment_116 : decode cX4_readCompartment 116 = .ok (.iastore, 1) := by decide +kernel
theorem dX4_readCompartment_117 : decode cX4_readCompartment 117 = .ok (.aload_n 0, 1) := by decide +kernel
theorem dX4_readCompartment_118 : decode cX4_readCompartment 118 = .ok (.getfield 29, 3) := by decide +kernel
theorem dX4_readCompartment_121 : decode cX4_readCompartment 121 = .ok (.dup, 1) := by decide +kernel
theorem dX4_readCompartment_122 : decode cX4_readCompartment 122 = .ok (.getfield 130, 3) := by decide +kernel
theorem dX4_readCompartment_125 : decode cX4_readCompartment 125 = .ok (.iconst 1, 1) := by decide +kernel
theorem dX4_readCompartment_126 : decode cX4_readCompartment 126 = .ok (.iadd, 1) := by decide +kernel
theorem dX4_readCompartment_127 : decode cX4_readCompartment 127 = .ok (.putfield 130, 3) := by decide +kernel
theorem dX4_readCompartment_130 : decode cX4_readCompartment 130 = .ok (.iconst 1, 1) := by decide +kernel
theorem dX4_readCompartment_131 : decode cX4_readCompartment 131 = .ok (.ireturn, 1) := by decide +kernel
theorem dX4_readLiquid_0 : decode cX4_readLiquid 0 = .ok (.aload_n 0, 1) := by decide +kernel
theorem dX4_readLiquid_1 : decode cX4_readLiquid 1 = .ok (.iconst 1, 1) := by decide +kernel
theorem dX4_readLiquid_2 : decode cX4_readLiquid 2 = .ok (.bipush 20, 2) := by decide +kernel
theorem dX4_readLiquid_4 : decode cX4_readLiquid 4 = .ok (.invokevirtual 88, 3) := by decide +kernel
theorem dX4_readLiquid_7 : decode cX4_readLiquid 7 = .ok (.ifCond .ne 5, 3) := by decide +kernel
theorem dX4_readLiquid_10 : decode cX4_readLiquid 10 = .ok (.iconst 0, 1) := by decide +kernel
theorem dX4_readLiquid_11 : decode cX4_readLiquid 11 = .ok (.ireturn, 1) := by decide +kernel
theorem dX4_readLiquid_12 : decode cX4_readLiquid 12 = .ok (.aload_n 0, 1) := by decide +kernel
theorem dX4_readLiquid_13 : decode cX4_readLiquid 13 = .ok (.getfield 29, 3) := by decide +kernel
theorem dX4_readLiquid_16 : decode cX4_readLiquid 16 = .ok (.getfield 142, 3) := by decide +kernel
theorem dX4_readLiquid_19 : decode cX4_readLiquid 19 = .ok (.aload_n 0, 1) := by decide +kernel
theorem dX4_readLiquid_20 : decode cX4_readLiquid 20 = .ok (.getfield 29, 3) := by decide +kernel
theorem dX4_readLiquid_23 : decode cX4_readLiquid 23 = .ok (.getfield 145, 3) := by decide +kernel
theorem dX4_readLiquid_26 : decode cX4_readLiquid 26 = .ok (.aload_n 0, 1) := by decide +kernel
theorem dX4_readLiquid_27 : decode cX4_readLiquid 27 = .ok (.getfield 92, 3) := by decide +kernel
theorem dX4_readLiquid_30 : decode cX4_readLiquid 30 = .ok (.iastore, 1) := by decide +kernel
theorem dX4_readLiquid_31 : decode cX4_readLiquid 31 = .ok (.aload_n 0, 1) := by decide +kernel
theorem dX4_readLiquid_32 : decode cX4_readLiquid 32 = .ok (.getfield 29, 3) := by decide +kernel
theorem dX4_readLiquid_35 : decode cX4_readLiquid 35 = .ok (.dup, 1) := by decide +kernel
theorem dX4_readLiquid_36 : decode cX4_readLiquid 36 = .ok (.getfield 145, 3) := by decide +kernel
theorem dX4_readLiquid_39 : decode cX4_readLiquid 39 = .ok (.iconst 1, 1) := by decide +kernel
theorem dX4_readLiquid_40 : decode cX4_readLiquid 40 = .ok (.iadd, 1) := by decide +kernel
theorem dX4_readLiquid_41 : decode cX4_readLiquid 41 = .ok (.putfield 145, 3) := by decide +kernel
theorem dX4_readLiquid_44 : decode cX4_readLiquid 44 = .ok (.iconst 1, 1) := by decide +kernel
theorem dX4_readLiquid_45 : decode cX4_readLiquid 45 = .ok (.ireturn, 1) := by decide +kernel
theorem dX4_readBar_0 : decode cX4_readBar 0 = .ok (.aload_n 0, 1) := by decide +kernel
theorem dX4_readBar_1 : decode cX4_readBar 1 = .ok (.iconst 0, 1) := by decide +kernel
theorem dX4_readBar_2 : decode cX4_readBar 2 = .ok (.aload_n 0, 1) := by decide +kernel
theorem dX4_readBar_3 : decode cX4_readBar 3 = .ok (.getfield 29, 3) := by decide +kernel
theorem dX4_readBar_6 : decode cX4_readBar 6 = .ok (.getfield 145, 3) := by decide +kernel
theorem dX4_readBar_9 : decode cX4_readBar 9 = .ok (.iconst 1, 1) := by decide +kernel
theorem dX4_readBar_10 : decode cX4_readBar 10 = .ok (.isub, 1) := by decide +kernel
theorem dX4_readBar_11 : decode cX4_readBar 11 = .ok (.invokevirtual 88, 3) := by decide +kernel
theorem dX4_readBar_14 : decode cX4_readBar 14 = .ok (.ifCond .ne 5, 3) := by decide +kernel
theorem dX4_readBar_17 : decode cX4_readBar 17 = .ok (.iconst 0, 1) := by decide +kernel
theorem dX4_readBar_18 : decode cX4_readBar 18 = .ok (.ireturn, 1) := by decide +kernel
theorem dX4_readBar_19 : decode cX4_readBar 19 = .ok (.aload_n 0, 1) := by decide +kernel
theorem dX4_readBar_20 : decode cX4_readBar 20 = .ok (.getfield 92, 3) := by decide +kernel
theorem dX4_readBar_23 : decode cX4_readBar 23 = .ok (.istore_n 1, 1) := by decide +kernel
theorem dX4_readBar_24 : decode cX4_readBar 24 = .ok (.aload_n 0, 1) := by decide +kernel
theorem dX4_readBar_25 : decode cX4_readBar 25 = .ok (.iconst 0, 1) := by decide +kernel
theorem dX4_readBar_26 : decode cX4_readBar 26 = .ok (.aload_n 0, 1) := by decide +kernel
theorem dX4_readBar_27 : decode cX4_readBar 27 = .ok (.getfield 29, 3) := by decide +kernel
theorem dX4_readBar_30 : decode cX4_readBar 30 = .ok (.getfield 145, 3) := by decide +kernel
theorem dX4_readBar_33 : decode cX4_readBar 33 = .ok (.iconst 1, 1) := by decide +kernel
theorem dX4_readBar_34 : decode cX4_readBar 34 = .ok (.isub, 1) := by decide +kernel
theorem dX4_readBar_35 : decode cX4_readBar 35 = .ok (.invokevirtual 88, 3) := by decide +kernel
theorem dX4_readBar_38 : decode cX4_readBar 38 = .ok (.ifCond .ne 5, 3) := by decide +kernel
theorem dX4_readBar_41 : decode cX4_readBar 41 = .ok (.iconst 0, 1) := by decide +kernel
theorem dX4_readBar_42 : decode cX4_readBar 42 = .ok (.ireturn, 1) := by decide +kernel
theorem dX4_readBar_43 : decode cX4_readBar 43 = .ok (.aload_n 0, 1) := by decide +kernel
theorem dX4_readBar_44 : decode cX4_readBar 44 = .ok (.getfield 29, 3) := by decide +kernel
theorem dX4_readBar_47 : decode cX4_readBar 47 = .ok (.iload_n 1, 1) := by decide +kernel
theorem dX4_readBar_48 : decode cX4_readBar 48 = .ok (.aload_n 0, 1) := by decide +kernel
theorem dX4_readBar_49 : decode cX4_readBar 49 = .ok (.getfield 92, 3) := by decide +kernel
theorem dX4_readBar_52 : decode cX4_readBar 52 = .ok (.invokevirtual 148, 3) := by decide +kernel
theorem dX4_readBar_55 : decode cX4_readBar 55 = .ok (.iconst 1, 1) := by decide +kernel
theorem dX4_readBar_56 : decode cX4_readBar 56 = .ok (.ireturn, 1) := by decide +kernel
theorem dX4_readLast_0 : decode cX4_readLast 0 = .ok (.aload_n 0, 1) := by decide +kernel
theorem dX4_readLast_1 : decode cX4_readLast 1 = .ok (.iconst 0, 1) := by decide +kernel
theorem dX4_readLast_2 : decode cX4_readLast 2 = .ok (.aload_n 0, 1) := by decide +kernel
theorem dX4_readLast_3 : decode cX4_readLast 3 = .ok (.getfield 29, 3) := by decide +kernel
theorem dX4_readLast_6 : decode cX4_readLast 6 = .ok (.getfield 130, 3) := by decide +kernel
theorem dX4_readLast_9 : decode cX4_readLast 9 = .ok (.iconst 1, 1) := by decide +kernel
theorem dX4_readLast_10 : decode cX4_readLast 10 = .ok (.isub, 1) := by decide +kernel
theorem dX4_readLast_11 : decode cX4_readLast 11 = .ok (.invokevirtual 88, 3) := by decide +kernel
theorem dX4_readLast_14 : decode cX4_readLast 14 = .ok (.ifCond .ne 5, 3) := by decide +kernel
theorem dX4_readLast_17 : decode cX4_readLast 17 = .ok (.iconst 0, 1) := by decide +kernel
theorem dX4_readLast_18 : decode cX4_readLast 18 = .ok (.ireturn, 1) := by decide +kernel
theorem dX4_readLast_19 : decode cX4_readLast 19 = .ok (.aload_n 0, 1) := by decide +kernel
theorem dX4_readLast_20 : decode cX4_readLast 20 = .ok (.getfield 92, 3) := by decide +kernel
theorem dX4_readLast_23 : decode cX4_readLast 23 = .ok (.istore_n 1, 1) := by decide +kernel
theorem dX4_readLast_24 : decode cX4_readLast 24 = .ok (.aload_n 0, 1) := by decide +kernel
theorem dX4_readLast_25 : decode cX4_readLast 25 = .ok (.iconst 0, 1) := by decide +kernel
theorem dX4_readLast_26 : decode cX4_readLast 26 = .ok (.aload_n 0, 1) := by decide +kernel
theorem dX4_readLast_27 : decode cX4_readLast 27 = .ok (.getfield 29, 3) := by decide +kernel
theorem dX4_readLast_30 : decode cX4_readLast 30 = .ok (.getfield 145, 3) := by decide +kernel
theorem dX4_readLast_33 : decode cX4_readLast 33 = .ok (.iconst 1, 1) := by decide +kernel
theorem dX4_readLast_34 : decode cX4_readLast 34 = .ok (.isub, 1) := by decide +kernel
theorem dX4_readLast_35 : decode cX4_readLast 35 = .ok (.invokevirtual 88, 3) := by decide +kernel
theorem dX4_readLast_38 : decode cX4_readLast 38 = .ok (.ifCond .ne 5, 3) := by decide +kernel
theorem dX4_readLast_41 : decode cX4_readLast 41 = .ok (.iconst 0, 1) := by decide +kernel
theorem dX4_readLast_42 : decode cX4_readLast 42 = .ok (.ireturn, 1) := by decide +kernel
theorem dX4_readLast_43 : decode cX4_readLast 43 = .ok (.aload_n 0, 1) := by decide +kernel
theorem dX4_readLast_44 : decode cX4_readLast 44 = .ok (.getfield 29, 3) := by decide +kernel
theorem dX4_readLast_47 : decode cX4_readLast 47 = .ok (.getfield 151, 3) := by decide +kernel
theorem dX4_readLast_50 : decode cX4_readLast 50 = .ok (.iload_n 1, 1) := by decide +kernel
theorem dX4_readLast_51 : decode cX4_readLast 51 = .ok (.aload_n 0, 1) := by decide +kernel
theorem dX4_readLast_52 : decode cX4_readLast 52 = .ok (.getfield 92, 3) := by decide +kernel
theorem dX4_readLast_55 : decode cX4_readLast 55 = .ok (.iastore, 1) := by decide +kernel
theorem dX4_readLast_56 : decode cX4_readLast 56 = .ok (.iconst 1, 1) := by decide +kernel
theorem dX4_readLast_57 : decode cX4_readLast 57 = .ok (.ireturn, 1) := by decide +kernel
theorem dX4_readDrop_0 : decode cX4_readDrop 0 = .ok (.aload_n 0, 1) := by decide +kernel
theorem dX4_readDrop_1 : decode cX4_readDrop 1 = .ok (.iconst 0, 1) := by decide +kernel
theorem dX4_readDrop_2 : decode cX4_readDrop 2 = .ok (.aload_n 0, 1) := by decide +kernel
theorem dX4_readDrop_3 : decode cX4_readDrop 3 = .ok (.getfield 29, 3) := by decide +kernel
theorem dX4_readDrop_6 : decode cX4_readDrop 6 = .ok (.getfield 145, 3) := by decide +kernel
theorem dX4_readDrop_9 : decode cX4_readDrop 9 = .ok (.iconst 1, 1) := by decide +kernel
theorem dX4_readDrop_10 : decode cX4_readDrop 10 = .ok (.isub, 1) := by decide +kernel
theorem dX4_readDrop_11 : decode cX4_readDrop 11 = .ok (.invokevirtual 88, 3) := by decide +kernel
theorem dX4_readDrop_14 : decode cX4_readDrop 14 = .ok (.ifCond .ne 5, 3) := by decide +kernel
theorem dX4_readDrop_17 : decode cX4_readDrop 17 = .ok (.iconst 0, 1) := by decide +kernel
theorem dX4_readDrop_18 : decode cX4_readDrop 18 = .ok (.ireturn, 1) := by decide +kernel
theorem dX4_readDrop_19 : decode cX4_readDrop 19 = .ok (.aload_n 0, 1) := by decide +kernel
theorem dX4_readDrop_20 : decode cX4_readDrop 20 = .ok (.getfield 29, 3) := by decide +kernel
theorem dX4_readDrop_23 : decode cX4_readDrop 23 = .ok (.getfield 153, 3) := by decide +kernel
theorem dX4_readDrop_26 : decode cX4_readDrop 26 = .ok (.aload_n 0, 1) := by decide +kernel
theorem dX4_readDrop_27 : decode cX4_readDrop 27 = .ok (.getfield 29, 3) := by decide +kernel
theorem dX4_readDrop_30 : decode cX4_readDrop 30 = .ok (.getfield 156, 3) := by decide +kernel
theorem dX4_readDrop_33 : decode cX4_readDrop 33 = .ok (.aload_n 0, 1) := by decide +kernel
theorem dX4_readDrop_34 : decode cX4_readDrop 34 = .ok (.getfield 92, 3) := by decide +kernel
theorem dX4_readDrop_37 : decode cX4_readDrop 37 = .ok (.iastore, 1) := by decide +kernel
theorem dX4_readDrop_38 : decode cX4_readDrop 38 = .ok (.aload_n 0, 1) := by decide +kernel
theorem dX4_readDrop_39 : decode cX4_readDrop 39 = .ok (.iconst 1, 1) := by decide +kernel
theorem dX4_readDrop_40 : decode cX4_readDrop 40 = .ok (.sipush 4995, 3) := by decide +kernel
theorem dX4_readDrop_43 : decode cX4_readDrop 43 = .ok (.invokevirtual 88, 3) := by decide +kernel
theorem dX4_readDrop_46 : decode cX4_readDrop 46 = .ok (.ifCond .ne 5, 3) := by decide +kernel
theorem dX4_readDrop_49 : decode cX4_readDrop 49 = .ok (.iconst 0, 1) := by decide +kernel
theorem dX4_readDrop_50 : decode cX4_readDrop 50 = .ok (.ireturn, 1) := by decide +kernel
theorem dX4_readDrop_51 : decode cX4_readDrop 51 = .ok (.aload_n 0, 1) := by decide +kernel
theorem dX4_readDrop_52 : decode cX4_readDrop 52 = .ok (.getfield 29, 3) := by decide +kernel
theorem dX4_readDrop_55 : decode cX4_readDrop 55 = .ok (.getfield 159, 3) := by decide +kernel
theorem dX4_readDrop_58 : decode cX4_readDrop 58 = .ok (.aload_n 0, 1) := by decide +kernel
theorem dX4_readDrop_59 : decode cX4_readDrop 59 = .ok (.getfield 29, 3) := by decide +kernel
theorem dX4_readDrop_62 : decode cX4_readDrop 62 = .ok (.getfield 156, 3) := by decide +kernel
theorem dX4_readDrop_65 : decode cX4_readDrop 65 = .ok (.aload_n 0, 1) := by decide +kernel
theorem dX4_readDrop_66 : decode cX4_readDrop 66 = .ok (.getfield 92, 3) := by decide +kernel
theorem dX4_readDrop_69 : decode cX4_readDrop 69 = .ok (.iastore, 1) := by decide +kernel
theorem dX4_readDrop_70 : decode cX4_readDrop 70 = .ok (.aload_n 0, 1) := by decide +kernel
theorem dX4_readDrop_71 : decode cX4_readDrop 71 = .ok (.getfield 29, 3) := by decide +kernel
theorem dX4_readDrop_74 : decode cX4_readDrop 74 = .ok (.dup, 1) := by decide +kernel
theorem dX4_readDrop_75 : decode cX4_readDrop 75 = .ok (.getfield 156, 3) := by decide +kernel
theorem dX4_readDrop_78 : decode cX4_readDrop 78 = .ok (.iconst 1, 1) := by decide +kernel
theorem dX4_readDrop_79 : decode cX4_readDrop 79 = .ok (.iadd, 1) := by decide +kernel
theorem dX4_readDrop_80 : decode cX4_readDrop 80 = .ok (.putfield 156, 3) := by decide +kernel
theorem dX4_readDrop_83 : decode cX4_readDrop 83 = .ok (.iconst 1, 1) := by decide +kernel
theorem dX4_readDrop_84 : decode cX4_readDrop 84 = .ok (.ireturn, 1) := by decide +kernel
theorem dX4_readNumber_0 : decode cX4_readNumber 0 = .ok (.aload_n 0, 1) := by decide +kernel
theorem dX4_readNumber_1 : decode cX4_readNumber 1 = .ok (.invokevirtual 44, 3) := by decide +kernel
theorem dX4_readNumber_4 : decode cX4_readNumber 4 = .ok (.aload_n 0, 1) := by decide +kernel
theorem dX4_readNumber_5 : decode cX4_readNumber 5 = .ok (.getfield 47, 3) := by decide +kernel
theorem dX4_readNumber_8 : decode cX4_readNumber 8 = .ok (.iconst 2, 1) := by decide +kernel
theorem dX4_readNumber_9 : decode cX4_readNumber 9 = .ok (.if_icmp .eq 9, 3) := by decide +kernel
theorem dX4_readNumber_12 : decode cX4_readNumber 12 = .ok (.aload_n 0, 1) := by decide +kernel
theorem dX4_readNumber_13 : decode cX4_readNumber 13 = .ok (.iconst 1, 1) := by decide +kernel
theorem dX4_readNumber_14 : decode cX4_readNumber 14 = .ok (.invokevirtual 60, 3) := by decide +kernel
theorem dX4_readNumber_17 : decode cX4_readNumber 17 = .ok (.ireturn, 1) := by decide +kernel
theorem dX4_readNumber_18 : decode cX4_readNumber 18 = .ok (.aload_n 0, 1) := by decide +kernel
theorem dX4_readNumber_19 : decode cX4_readNumber 19 = .ok (.getfield 92, 3) := by decide +kernel
theorem dX4_readNumber_22 : decode cX4_readNumber 22 = .ok (.iload_n 1, 1) := by decide +kernel
theorem dX4_readNumber_23 : decode cX4_readNumber 23 = .ok (.if_icmp .lt 11, 3) := by decide +kernel
theorem dX4_readNumber_26 : decode cX4_readNumber 26 = .ok (.aload_n 0, 1) := by decide +kernel
theorem dX4_readNumber_27 : decode cX4_readNumber 27 = .ok (.getfield 92, 3) := by decide +kernel
