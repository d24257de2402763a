-- laid by wip/p30/names.py
theorem dX0_init_0 : decode cX0_init 0 = .ok (.aload_n 0, 1) := by decide +kernel
theorem dX0_init_1 : decode cX0_init 1 = .ok (.invokespecial 3, 3) := by decide +kernel
theorem dX0_init_4 : decode cX0_init 4 = .ok (.aload_n 0, 1) := by decide +kernel
theorem dX0_init_5 : decode cX0_init 5 = .ok (.bipush 8, 2) := by decide +kernel
theorem dX0_init_7 : decode cX0_init 7 = .ok (.newarray .int, 2) := by decide +kernel
theorem dX0_init_9 : decode cX0_init 9 = .ok (.putfield 9, 3) := by decide +kernel
theorem dX0_init_12 : decode cX0_init 12 = .ok (.aload_n 0, 1) := by decide +kernel
theorem dX0_init_13 : decode cX0_init 13 = .ok (.bipush 8, 2) := by decide +kernel
theorem dX0_init_15 : decode cX0_init 15 = .ok (.newarray .int, 2) := by decide +kernel
theorem dX0_init_17 : decode cX0_init 17 = .ok (.putfield 15, 3) := by decide +kernel
theorem dX0_init_20 : decode cX0_init 20 = .ok (.aload_n 0, 1) := by decide +kernel
theorem dX0_init_21 : decode cX0_init 21 = .ok (.bipush 96, 2) := by decide +kernel
theorem dX0_init_23 : decode cX0_init 23 = .ok (.newarray .int, 2) := by decide +kernel
theorem dX0_init_25 : decode cX0_init 25 = .ok (.putfield 18, 3) := by decide +kernel
theorem dX0_init_28 : decode cX0_init 28 = .ok (.aload_n 0, 1) := by decide +kernel
theorem dX0_init_29 : decode cX0_init 29 = .ok (.iload_n 1, 1) := by decide +kernel
theorem dX0_init_30 : decode cX0_init 30 = .ok (.putfield 21, 3) := by decide +kernel
theorem dX0_init_33 : decode cX0_init 33 = .ok (.return_, 1) := by decide +kernel
theorem dX0_countAt_0 : decode cX0_countAt 0 = .ok (.iload_n 1, 1) := by decide +kernel
theorem dX0_countAt_1 : decode cX0_countAt 1 = .ok (.ifCond .lt 21, 3) := by decide +kernel
theorem dX0_countAt_4 : decode cX0_countAt 4 = .ok (.iload_n 1, 1) := by decide +kernel
theorem dX0_countAt_5 : decode cX0_countAt 5 = .ok (.aload_n 0, 1) := by decide +kernel
theorem dX0_countAt_6 : decode cX0_countAt 6 = .ok (.getfield 9, 3) := by decide +kernel
theorem dX0_countAt_9 : decode cX0_countAt 9 = .ok (.arraylength, 1) := by decide +kernel
theorem dX0_countAt_10 : decode cX0_countAt 10 = .ok (.if_icmp .ge 12, 3) := by decide +kernel
theorem dX0_countAt_13 : decode cX0_countAt 13 = .ok (.aload_n 0, 1) := by decide +kernel
theorem dX0_countAt_14 : decode cX0_countAt 14 = .ok (.getfield 9, 3) := by decide +kernel
theorem dX0_countAt_17 : decode cX0_countAt 17 = .ok (.iload_n 1, 1) := by decide +kernel
theorem dX0_countAt_18 : decode cX0_countAt 18 = .ok (.iaload, 1) := by decide +kernel
theorem dX0_countAt_19 : decode cX0_countAt 19 = .ok (.goto 4, 3) := by decide +kernel
theorem dX0_countAt_22 : decode cX0_countAt 22 = .ok (.iconst 0, 1) := by decide +kernel
theorem dX0_countAt_23 : decode cX0_countAt 23 = .ok (.ireturn, 1) := by decide +kernel
theorem dX0_wearAt_0 : decode cX0_wearAt 0 = .ok (.iload_n 1, 1) := by decide +kernel
theorem dX0_wearAt_1 : decode cX0_wearAt 1 = .ok (.ifCond .lt 21, 3) := by decide +kernel
theorem dX0_wearAt_4 : decode cX0_wearAt 4 = .ok (.iload_n 1, 1) := by decide +kernel
theorem dX0_wearAt_5 : decode cX0_wearAt 5 = .ok (.aload_n 0, 1) := by decide +kernel
theorem dX0_wearAt_6 : decode cX0_wearAt 6 = .ok (.getfield 15, 3) := by decide +kernel
theorem dX0_wearAt_9 : decode cX0_wearAt 9 = .ok (.arraylength, 1) := by decide +kernel
theorem dX0_wearAt_10 : decode cX0_wearAt 10 = .ok (.if_icmp .ge 12, 3) := by decide +kernel
theorem dX0_wearAt_13 : decode cX0_wearAt 13 = .ok (.aload_n 0, 1) := by decide +kernel
theorem dX0_wearAt_14 : decode cX0_wearAt 14 = .ok (.getfield 15, 3) := by decide +kernel
theorem dX0_wearAt_17 : decode cX0_wearAt 17 = .ok (.iload_n 1, 1) := by decide +kernel
theorem dX0_wearAt_18 : decode cX0_wearAt 18 = .ok (.iaload, 1) := by decide +kernel
theorem dX0_wearAt_19 : decode cX0_wearAt 19 = .ok (.goto 4, 3) := by decide +kernel
theorem dX0_wearAt_22 : decode cX0_wearAt 22 = .ok (.iconst 0, 1) := by decide +kernel
theorem dX0_wearAt_23 : decode cX0_wearAt 23 = .ok (.ireturn, 1) := by decide +kernel
theorem dX0_isWornAt_0 : decode cX0_isWornAt 0 = .ok (.aload_n 0, 1) := by decide +kernel
theorem dX0_isWornAt_1 : decode cX0_isWornAt 1 = .ok (.iload_n 1, 1) := by decide +kernel
theorem dX0_isWornAt_2 : decode cX0_isWornAt 2 = .ok (.invokevirtual 25, 3) := by decide +kernel
theorem dX0_isWornAt_5 : decode cX0_isWornAt 5 = .ok (.bipush 40, 2) := by decide +kernel
theorem dX0_isWornAt_7 : decode cX0_isWornAt 7 = .ok (.if_icmp .lt 7, 3) := by decide +kernel
theorem dX0_isWornAt_10 : decode cX0_isWornAt 10 = .ok (.iconst 1, 1) := by decide +kernel
theorem dX0_isWornAt_11 : decode cX0_isWornAt 11 = .ok (.goto 4, 3) := by decide +kernel
theorem dX0_isWornAt_14 : decode cX0_isWornAt 14 = .ok (.iconst 0, 1) := by decide +kernel
theorem dX0_isWornAt_15 : decode cX0_isWornAt 15 = .ok (.ireturn, 1) := by decide +kernel
theorem dX0_canMove_0 : decode cX0_canMove 0 = .ok (.aload_n 0, 1) := by decide +kernel
theorem dX0_canMove_1 : decode cX0_canMove 1 = .ok (.iload_n 1, 1) := by decide +kernel
theorem dX0_canMove_2 : decode cX0_canMove 2 = .ok (.invokevirtual 29, 3) := by decide +kernel
theorem dX0_canMove_5 : decode cX0_canMove 5 = .ok (.i2l, 1) := by decide +kernel
theorem dX0_canMove_6 : decode cX0_canMove 6 = .ok (.iload_n 2, 1) := by decide +kernel
theorem dX0_canMove_7 : decode cX0_canMove 7 = .ok (.i2l, 1) := by decide +kernel
theorem dX0_canMove_8 : decode cX0_canMove 8 = .ok (.ladd, 1) := by decide +kernel
theorem dX0_canMove_9 : decode cX0_canMove 9 = .ok (.lstore_n 3, 1) := by decide +kernel
theorem dX0_canMove_10 : decode cX0_canMove 10 = .ok (.lload_n 3, 1) := by decide +kernel
theorem dX0_canMove_11 : decode cX0_canMove 11 = .ok (.lconst 0, 1) := by decide +kernel
theorem dX0_canMove_12 : decode cX0_canMove 12 = .ok (.lcmp, 1) := by decide +kernel
theorem dX0_canMove_13 : decode cX0_canMove 13 = .ok (.ifCond .lt 17, 3) := by decide +kernel
theorem dX0_canMove_16 : decode cX0_canMove 16 = .ok (.lload_n 3, 1) := by decide +kernel
theorem dX0_canMove_17 : decode cX0_canMove 17 = .ok (.aload_n 0, 1) := by decide +kernel
theorem dX0_canMove_18 : decode cX0_canMove 18 = .ok (.getfield 21, 3) := by decide +kernel
theorem dX0_canMove_21 : decode cX0_canMove 21 = .ok (.i2l, 1) := by decide +kernel
theorem dX0_canMove_22 : decode cX0_canMove 22 = .ok (.lcmp, 1) := by decide +kernel
theorem dX0_canMove_23 : decode cX0_canMove 23 = .ok (.ifCond .gt 7, 3) := by decide +kernel
theorem dX0_canMove_26 : decode cX0_canMove 26 = .ok (.iconst 1, 1) := by decide +kernel
theorem dX0_canMove_27 : decode cX0_canMove 27 = .ok (.goto 4, 3) := by decide +kernel
theorem dX0_canMove_30 : decode cX0_canMove 30 = .ok (.iconst 0, 1) := by decide +kernel
theorem dX0_canMove_31 : decode cX0_canMove 31 = .ok (.ireturn, 1) := by decide +kernel
theorem dX0_freshen_0 : decode cX0_freshen 0 = .ok (.iload_n 1, 1) := by decide +kernel
theorem dX0_freshen_1 : decode cX0_freshen 1 = .ok (.ifCond .lt 19, 3) := by decide +kernel
theorem dX0_freshen_4 : decode cX0_freshen 4 = .ok (.iload_n 1, 1) := by decide +kernel
theorem dX0_freshen_5 : decode cX0_freshen 5 = .ok (.aload_n 0, 1) := by decide +kernel
theorem dX0_freshen_6 : decode cX0_freshen 6 = .ok (.getfield 15, 3) := by decide +kernel
theorem dX0_freshen_9 : decode cX0_freshen 9 = .ok (.arraylength, 1) := by decide +kernel
theorem dX0_freshen_10 : decode cX0_freshen 10 = .ok (.if_icmp .ge 10, 3) := by decide +kernel
theorem dX0_freshen_13 : decode cX0_freshen 13 = .ok (.aload_n 0, 1) := by decide +kernel
theorem dX0_freshen_14 : decode cX0_freshen 14 = .ok (.getfield 15, 3) := by decide +kernel
theorem dX0_freshen_17 : decode cX0_freshen 17 = .ok (.iload_n 1, 1) := by decide +kernel
theorem dX0_freshen_18 : decode cX0_freshen 18 = .ok (.iconst 0, 1) := by decide +kernel
theorem dX0_freshen_19 : decode cX0_freshen 19 = .ok (.iastore, 1) := by decide +kernel
theorem dX0_freshen_20 : decode cX0_freshen 20 = .ok (.return_, 1) := by decide +kernel
theorem dX0_keepIn_0 : decode cX0_keepIn 0 = .ok (.iload_n 1, 1) := by decide +kernel
theorem dX0_keepIn_1 : decode cX0_keepIn 1 = .ok (.bipush 8, 2) := by decide +kernel
theorem dX0_keepIn_3 : decode cX0_keepIn 3 = .ok (.imul, 1) := by decide +kernel
theorem dX0_keepIn_4 : decode cX0_keepIn 4 = .ok (.istore_n 2, 1) := by decide +kernel
theorem dX0_keepIn_5 : decode cX0_keepIn 5 = .ok (.iconst 0, 1) := by decide +kernel
theorem dX0_keepIn_6 : decode cX0_keepIn 6 = .ok (.istore_n 3, 1) := by decide +kernel
theorem dX0_keepIn_7 : decode cX0_keepIn 7 = .ok (.iload_n 3, 1) := by decide +kernel
theorem dX0_keepIn_8 : decode cX0_keepIn 8 = .ok (.aload_n 0, 1) := by decide +kernel
theorem dX0_keepIn_9 : decode cX0_keepIn 9 = .ok (.getfield 9, 3) := by decide +kernel
theorem dX0_keepIn_12 : decode cX0_keepIn 12 = .ok (.arraylength, 1) := by decide +kernel
theorem dX0_keepIn_13 : decode cX0_keepIn 13 = .ok (.if_icmp .ge 40, 3) := by decide +kernel
theorem dX0_keepIn_16 : decode cX0_keepIn 16 = .ok (.iload_n 2, 1) := by decide +kernel
theorem dX0_keepIn_17 : decode cX0_keepIn 17 = .ok (.iload_n 3, 1) := by decide +kernel
theorem dX0_keepIn_18 : decode cX0_keepIn 18 = .ok (.iadd, 1) := by decide +kernel
theorem dX0_keepIn_19 : decode cX0_keepIn 19 = .ok (.ifCond .lt 28, 3) := by decide +kernel
theorem dX0_keepIn_22 : decode cX0_keepIn 22 = .ok (.iload_n 2, 1) := by decide +kernel
theorem dX0_keepIn_23 : decode cX0_keepIn 23 = .ok (.iload_n 3, 1) := by decide +kernel
theorem dX0_keepIn_24 : decode cX0_keepIn 24 = .ok (.iadd, 1) := by decide +kernel
theorem dX0_keepIn_25 : decode cX0_keepIn 25 = .ok (.aload_n 0, 1) := by decide +kernel
theorem dX0_keepIn_26 : decode cX0_keepIn 26 = .ok (.getfield 18, 3) := by decide +kernel
theorem dX0_keepIn_29 : decode cX0_keepIn 29 = .ok (.arraylength, 1) := by decide +kernel
theorem dX0_keepIn_30 : decode cX0_keepIn 30 = .ok (.if_icmp .ge 17, 3) := by decide +kernel
theorem dX0_keepIn_33 : decode cX0_keepIn 33 = .ok (.aload_n 0, 1) := by decide +kernel
theorem dX0_keepIn_34 : decode cX0_keepIn 34 = .ok (.getfield 18, 3) := by decide +kernel
theorem dX0_keepIn_37 : decode cX0_keepIn 37 = .ok (.iload_n 2, 1) := by decide +kernel
theorem dX0_keepIn_38 : decode cX0_keepIn 38 = .ok (.iload_n 3, 1) := by decide +kernel
theorem dX0_keepIn_39 : decode cX0_keepIn 39 = .ok (.iadd, 1) := by decide +kernel
theorem dX0_keepIn_40 : decode cX0_keepIn 40 = .ok (.aload_n 0, 1) := by decide +kernel
theorem dX0_keepIn_41 : decode cX0_keepIn 41 = .ok (.getfield 9, 3) := by decide +kernel
theorem dX0_keepIn_44 : decode cX0_keepIn 44 = .ok (.iload_n 3, 1) := by decide +kernel
theorem dX0_keepIn_45 : decode cX0_keepIn 45 = .ok (.iaload, 1) := by decide +kernel
theorem dX0_keepIn_46 : decode cX0_keepIn 46 = .ok (.iastore, 1) := by decide +kernel
theorem dX0_keepIn_47 : decode cX0_keepIn 47 = .ok (.iinc 3 1, 3) := by decide +kernel
theorem dX0_keepIn_50 : decode cX0_keepIn 50 = .ok (.goto (-43), 3) := by decide +kernel
theorem dX0_keepIn_53 : decode cX0_keepIn 53 = .ok (.return_, 1) := by decide +kernel
theorem dX0_restoreFrom_0 : decode cX0_restoreFrom 0 = .ok (.iload_n 1, 1) := by decide +kernel
theorem dX0_restoreFrom_1 : decode cX0_restoreFrom 1 = .ok (.bipush 8, 2) := by decide +kernel
theorem dX0_restoreFrom_3 : decode cX0_restoreFrom 3 = .ok (.imul, 1) := by decide +kernel
theorem dX0_restoreFrom_4 : decode cX0_restoreFrom 4 = .ok (.istore_n 2, 1) := by decide +kernel
theorem dX0_restoreFrom_5 : decode cX0_restoreFrom 5 = .ok (.iconst 0, 1) := by decide +kernel
theorem dX0_restoreFrom_6 : decode cX0_restoreFrom 6 = .ok (.istore_n 3, 1) := by decide +kernel
theorem dX0_restoreFrom_7 : decode cX0_restoreFrom 7 = .ok (.iload_n 3, 1) := by decide +kernel
theorem dX0_restoreFrom_8 : decode cX0_restoreFrom 8 = .ok (.aload_n 0, 1) := by decide +kernel
theorem dX0_restoreFrom_9 : decode cX0_restoreFrom 9 = .ok (.getfield 9, 3) := by decide +kernel
theorem dX0_restoreFrom_12 : decode cX0_restoreFrom 12 = .ok (.arraylength, 1) := by decide +kernel
theorem dX0_restoreFrom_13 : decode cX0_restoreFrom 13 = .ok (.if_icmp .ge 40, 3) := by decide +kernel
theorem dX0_restoreFrom_16 : decode cX0_restoreFrom 16 = .ok (.iload_n 2, 1) := by decide +kernel
theorem dX0_restoreFrom_17 : decode cX0_restoreFrom 17 = .ok (.iload_n 3, 1) := by decide +kernel
theorem dX0_restoreFrom_18 : decode cX0_restoreFrom 18 = .ok (.iadd, 1) := by decide +kernel
theorem dX0_restoreFrom_19 : decode cX0_restoreFrom 19 = .ok (.ifCond .lt 28, 3) := by decide +kernel
theorem dX0_restoreFrom_22 : decode cX0_restoreFrom 22 = .ok (.iload_n 2, 1) := by decide +kernel
theorem dX0_restoreFrom_23 : decode cX0_restoreFrom 23 = .ok (.iload_n 3, 1) := by decide +kernel
theorem dX0_restoreFrom_24 : decode cX0_restoreFrom 24 = .ok (.iadd, 1) := by decide +kernel
theorem dX0_restoreFrom_25 : decode cX0_restoreFrom 25 = .ok (.aload_n 0, 1) := by decide +kernel
theorem dX0_restoreFrom_26 : decode cX0_restoreFrom 26 = .ok (.getfield 18, 3) := by decide +kernel
theorem dX0_restoreFrom_29 : decode cX0_restoreFrom 29 = .ok (.arraylength, 1) := by decide +kernel
theorem dX0_restoreFrom_30 : decode cX0_restoreFrom 30 = .ok (.if_icmp .ge 17, 3) := by decide +kernel
theorem dX0_restoreFrom_33 : decode cX0_restoreFrom 33 = .ok (.aload_n 0, 1) := by decide +kernel
theorem dX0_restoreFrom_34 : decode cX0_restoreFrom 34 = .ok (.getfield 9, 3) := by decide +kernel
theorem dX0_restoreFrom_37 : decode cX0_restoreFrom 37 = .ok (.iload_n 3, 1) := by decide +kernel
theorem dX0_restoreFrom_38 : decode cX0_restoreFrom 38 = .ok (.aload_n 0, 1) := by decide +kernel
theorem dX0_restoreFrom_39 : decode cX0_restoreFrom 39 = .ok (.getfield 18, 3) := by decide +kernel
theorem dX0_restoreFrom_42 : decode cX0_restoreFrom 42 = .ok (.iload_n 2, 1) := by decide +kernel
theorem dX0_restoreFrom_43 : decode cX0_restoreFrom 43 = .ok (.iload_n 3, 1) := by decide +kernel
theorem dX0_restoreFrom_44 : decode cX0_restoreFrom 44 = .ok (.iadd, 1) := by decide +kernel
theorem dX0_restoreFrom_45 : decode cX0_restoreFrom 45 = .ok (.iaload, 1) := by decide +kernel
theorem dX0_restoreFrom_46 : decode cX0_restoreFrom 46 = .ok (.iastore, 1) := by decide +kernel
theorem dX0_restoreFrom_47 : decode cX0_restoreFrom 47 = .ok (.iinc 3 1, 3) := by decide +kernel
theorem dX0_restoreFrom_50 : decode cX0_restoreFrom 50 = .ok (.goto (-43), 3) := by decide +kernel
theorem dX0_restoreFrom_53 : decode cX0_restoreFrom 53 = .ok (.return_, 1) := by decide +kernel
theorem dX0_copyFrom_0 : decode cX0_copyFrom 0 = .ok (.aload_n 0, 1) := by decide +kernel
theorem dX0_copyFrom_1 : decode cX0_copyFrom 1 = .ok (.aload_n 1, 1) := by decide +kernel
theorem dX0_copyFrom_2 : decode cX0_copyFrom 2 = .ok (.getfield 21, 3) := by decide +kernel
theorem dX0_copyFrom_5 : decode cX0_copyFrom 5 = .ok (.putfield 21, 3) := by decide +kernel
theorem dX0_copyFrom_8 : decode cX0_copyFrom 8 = .ok (.iconst 0, 1) := by decide +kernel
theorem dX0_copyFrom_9 : decode cX0_copyFrom 9 = .ok (.istore_n 2, 1) := by decide +kernel
theorem dX0_copyFrom_10 : decode cX0_copyFrom 10 = .ok (.iload_n 2, 1) := by decide +kernel
theorem dX0_copyFrom_11 : decode cX0_copyFrom 11 = .ok (.aload_n 0, 1) := by decide +kernel
theorem dX0_copyFrom_12 : decode cX0_copyFrom 12 = .ok (.getfield 9, 3) := by decide +kernel
theorem dX0_copyFrom_15 : decode cX0_copyFrom 15 = .ok (.arraylength, 1) := by decide +kernel
theorem dX0_copyFrom_16 : decode cX0_copyFrom 16 = .ok (.if_icmp .ge 20, 3) := by decide +kernel
theorem dX0_copyFrom_19 : decode cX0_copyFrom 19 = .ok (.aload_n 0, 1) := by decide +kernel
theorem dX0_copyFrom_20 : decode cX0_copyFrom 20 = .ok (.getfield 9, 3) := by decide +kernel
theorem dX0_copyFrom_23 : decode cX0_copyFrom 23 = .ok (.iload_n 2, 1) := by decide +kernel
theorem dX0_copyFrom_24 : decode cX0_copyFrom 24 = .ok (.aload_n 1, 1) := by decide +kernel
theorem dX0_copyFrom_25 : decode cX0_copyFrom 25 = .ok (.iload_n 2, 1) := by decide +kernel
theorem dX0_copyFrom_26 : decode cX0_copyFrom 26 = .ok (.invokevirtual 29, 3) := by decide +kernel
theorem dX0_copyFrom_29 : decode cX0_copyFrom 29 = .ok (.iastore, 1) := by decide +kernel
theorem dX0_copyFrom_30 : decode cX0_copyFrom 30 = .ok (.iinc 2 1, 3) := by decide +kernel
theorem dX0_copyFrom_33 : decode cX0_copyFrom 33 = .ok (.goto (-23), 3) := by decide +kernel
theorem dX0_copyFrom_36 : decode cX0_copyFrom 36 = .ok (.iconst 0, 1) := by decide +kernel
theorem dX0_copyFrom_37 : decode cX0_copyFrom 37 = .ok (.istore_n 2, 1) := by decide +kernel
theorem dX0_copyFrom_38 : decode cX0_copyFrom 38 = .ok (.iload_n 2, 1) := by decide +kernel
theorem dX0_copyFrom_39 : decode cX0_copyFrom 39 = .ok (.aload_n 0, 1) := by decide +kernel
theorem dX0_copyFrom_40 : decode cX0_copyFrom 40 = .ok (.getfield 15, 3) := by decide +kernel
theorem dX0_copyFrom_43 : decode cX0_copyFrom 43 = .ok (.arraylength, 1) := by decide +kernel
theorem dX0_copyFrom_44 : decode cX0_copyFrom 44 = .ok (.if_icmp .ge 20, 3) := by decide +kernel
theorem dX0_copyFrom_47 : decode cX0_copyFrom 47 = .ok (.aload_n 0, 1) := by decide +kernel
theorem dX0_copyFrom_48 : decode cX0_copyFrom 48 = .ok (.getfield 15, 3) := by decide +kernel
theorem dX0_copyFrom_51 : decode cX0_copyFrom 51 = .ok (.iload_n 2, 1) := by decide +kernel
theorem dX0_copyFrom_52 : decode cX0_copyFrom 52 = .ok (.aload_n 1, 1) := by decide +kernel
theorem dX0_copyFrom_53 : decode cX0_copyFrom 53 = .ok (.iload_n 2, 1) := by decide +kernel
theorem dX0_copyFrom_54 : decode cX0_copyFrom 54 = .ok (.invokevirtual 25, 3) := by decide +kernel
theorem dX0_copyFrom_57 : decode cX0_copyFrom 57 = .ok (.iastore, 1) := by decide +kernel
theorem dX0_copyFrom_58 : decode cX0_copyFrom 58 = .ok (.iinc 2 1, 3) := by decide +kernel
theorem dX0_copyFrom_61 : decode cX0_copyFrom 61 = .ok (.goto (-23), 3) := by decide +kernel
theorem dX0_copyFrom_64 : decode cX0_copyFrom 64 = .ok (.return_, 1) := by decide +kernel
theorem dX1_init_0 : decode cX1_init 0 = .ok (.aload_n 0, 1) := by decide +kernel
theorem dX1_init_1 : decode cX1_init 1 = .ok (.invokespecial 3, 3) := by decide +kernel
theorem dX1_init_4 : decode cX1_init 4 = .ok (.aload_n 0, 1) := by decide +kernel
theorem dX1_init_5 : decode cX1_init 5 = .ok (.iload_n 1, 1) := by decide +kernel
theorem dX1_init_6 : decode cX1_init 6 = .ok (.putfield 9, 3) := by decide +kernel
theorem dX1_init_9 : decode cX1_init 9 = .ok (.aload_n 0, 1) := by decide +kernel
theorem dX1_init_10 : decode cX1_init 10 = .ok (.iload_n 2, 1) := by decide +kernel
theorem dX1_init_11 : decode cX1_init 11 = .ok (.putfield 15, 3) := by decide +kernel
theorem dX1_init_14 : decode cX1_init 14 = .ok (.aload_n 0, 1) := by decide +kernel
theorem dX1_init_15 : decode cX1_init 15 = .ok (.new 18, 3) := by decide +kernel
theorem dX1_init_18 : decode cX1_init 18 = .ok (.dup, 1) := by decide +kernel
theorem dX1_init_19 : decode cX1_init 19 = .ok (.iload_n 1, 1) := by decide +kernel
theorem dX1_init_20 : decode cX1_init 20 = .ok (.ifCond .lt 19, 3) := by decide +kernel
theorem dX1_init_23 : decode cX1_init 23 = .ok (.iload_n 1, 1) := by decide +kernel
theorem dX1_init_24 : decode cX1_init 24 = .ok (.getstatic 20, 3) := by decide +kernel
theorem dX1_init_27 : decode cX1_init 27 = .ok (.arraylength, 1) := by decide +kernel
theorem dX1_init_28 : decode cX1_init 28 = .ok (.if_icmp .ge 11, 3) := by decide +kernel
theorem dX1_init_31 : decode cX1_init 31 = .ok (.getstatic 20, 3) := by decide +kernel
theorem dX1_init_34 : decode cX1_init 34 = .ok (.iload_n 1, 1) := by decide +kernel
theorem dX1_init_35 : decode cX1_init 35 = .ok (.iaload, 1) := by decide +kernel
theorem dX1_init_36 : decode cX1_init 36 = .ok (.goto 4, 3) := by decide +kernel
theorem dX1_init_39 : decode cX1_init 39 = .ok (.iconst 0, 1) := by decide +kernel
theorem dX1_init_40 : decode cX1_init 40 = .ok (.invokespecial 24, 3) := by decide +kernel
theorem dX1_init_43 : decode cX1_init 43 = .ok (.putfield 27, 3) := by decide +kernel
theorem dX1_init_46 : decode cX1_init 46 = .ok (.aload_n 0, 1) := by decide +kernel
theorem dX1_init_47 : decode cX1_init 47 = .ok (.new 18, 3) := by decide +kernel
theorem dX1_init_50 : decode cX1_init 50 = .ok (.dup, 1) := by decide +kernel
theorem dX1_init_51 : decode cX1_init 51 = .ok (.iload_n 1, 1) := by decide +kernel
theorem dX1_init_52 : decode cX1_init 52 = .ok (.ifCond .lt 19, 3) := by decide +kernel
theorem dX1_init_55 : decode cX1_init 55 = .ok (.iload_n 1, 1) := by decide +kernel
theorem dX1_init_56 : decode cX1_init 56 = .ok (.getstatic 31, 3) := by decide +kernel
theorem dX1_init_59 : decode cX1_init 59 = .ok (.arraylength, 1) := by decide +kernel
theorem dX1_init_60 : decode cX1_init 60 = .ok (.if_icmp .ge 11, 3) := by decide +kernel
theorem dX1_init_63 : decode cX1_init 63 = .ok (.getstatic 31, 3) := by decide +kernel
theorem dX1_init_66 : decode cX1_init 66 = .ok (.iload_n 1, 1) := by decide +kernel
theorem dX1_init_67 : decode cX1_init 67 = .ok (.iaload, 1) := by decide +kernel
theorem dX1_init_68 : decode cX1_init 68 = .ok (.goto 4, 3) := by decide +kernel
theorem dX1_init_71 : decode cX1_init 71 = .ok (.iconst 0, 1) := by decide +kernel
theorem dX1_init_72 : decode cX1_init 72 = .ok (.invokespecial 24, 3) := by decide +kernel
theorem dX1_init_75 : decode cX1_init 75 = .ok (.putfield 34, 3) := by decide +kernel
theorem dX1_init_78 : decode cX1_init 78 = .ok (.return_, 1) := by decide +kernel
theorem dX1_copyFrom_0 : decode cX1_copyFrom 0 = .ok (.aload_n 0, 1) := by decide +kernel
theorem dX1_copyFrom_1 : decode cX1_copyFrom 1 = .ok (.aload_n 1, 1) := by decide +kernel
theorem dX1_copyFrom_2 : decode cX1_copyFrom 2 = .ok (.getfield 9, 3) := by decide +kernel
theorem dX1_copyFrom_5 : decode cX1_copyFrom 5 = .ok (.putfield 9, 3) := by decide +kernel
theorem dX1_copyFrom_8 : decode cX1_copyFrom 8 = .ok (.aload_n 0, 1) := by decide +kernel
theorem dX1_copyFrom_9 : decode cX1_copyFrom 9 = .ok (.aload_n 1, 1) := by decide +kernel
theorem dX1_copyFrom_10 : decode cX1_copyFrom 10 = .ok (.getfield 15, 3) := by decide +kernel
theorem dX1_copyFrom_13 : decode cX1_copyFrom 13 = .ok (.putfield 15, 3) := by decide +kernel
theorem dX1_copyFrom_16 : decode cX1_copyFrom 16 = .ok (.aload_n 0, 1) := by decide +kernel
theorem dX1_copyFrom_17 : decode cX1_copyFrom 17 = .ok (.getfield 27, 3) := by decide +kernel
theorem dX1_copyFrom_20 : decode cX1_copyFrom 20 = .ok (.aload_n 1, 1) := by decide +kernel
theorem dX1_copyFrom_21 : decode cX1_copyFrom 21 = .ok (.getfield 27, 3) := by decide +kernel
theorem dX1_copyFrom_24 : decode cX1_copyFrom 24 = .ok (.invokevirtual 37, 3) := by decide +kernel
theorem dX1_copyFrom_27 : decode cX1_copyFrom 27 = .ok (.aload_n 0, 1) := by decide +kernel
theorem dX1_copyFrom_28 : decode cX1_copyFrom 28 = .ok (.getfield 34, 3) := by decide +kernel
theorem dX1_copyFrom_31 : decode cX1_copyFrom 31 = .ok (.aload_n 1, 1) := by decide +kernel
theorem dX1_copyFrom_32 : decode cX1_copyFrom 32 = .ok (.getfield 34, 3) := by decide +kernel
theorem dX1_copyFrom_35 : decode cX1_copyFrom 35 = .ok (.invokevirtual 37, 3) := by decide +kernel
theorem dX1_copyFrom_38 : decode cX1_copyFrom 38 = .ok (.aload_n 0, 1) := by decide +kernel
theorem dX1_copyFrom_39 : decode cX1_copyFrom 39 = .ok (.aload_n 1, 1) := by decide +kernel
theorem dX1_copyFrom_40 : decode cX1_copyFrom 40 = .ok (.getfield 41, 3) := by decide +kernel
theorem dX1_copyFrom_43 : decode cX1_copyFrom 43 = .ok (.putfield 41, 3) := by decide +kernel
theorem dX1_copyFrom_46 : decode cX1_copyFrom 46 = .ok (.aload_n 0, 1) := by decide +kernel
theorem dX1_copyFrom_47 : decode cX1_copyFrom 47 = .ok (.aload_n 1, 1) := by decide +kernel
theorem dX1_copyFrom_48 : decode cX1_copyFrom 48 = .ok (.getfield 44, 3) := by decide +kernel
theorem dX1_copyFrom_51 : decode cX1_copyFrom 51 = .ok (.putfield 44, 3) := by decide +kernel
theorem dX1_copyFrom_54 : decode cX1_copyFrom 54 = .ok (.aload_n 0, 1) := by decide +kernel
theorem dX1_copyFrom_55 : decode cX1_copyFrom 55 = .ok (.aload_n 1, 1) := by decide +kernel
theorem dX1_copyFrom_56 : decode cX1_copyFrom 56 = .ok (.getfield 48, 3) := by decide +kernel
theorem dX1_copyFrom_59 : decode cX1_copyFrom 59 = .ok (.putfield 48, 3) := by decide +kernel
theorem dX1_copyFrom_62 : decode cX1_copyFrom 62 = .ok (.aload_n 0, 1) := by decide +kernel
theorem dX1_copyFrom_63 : decode cX1_copyFrom 63 = .ok (.aload_n 1, 1) := by decide +kernel
theorem dX1_copyFrom_64 : decode cX1_copyFrom 64 = .ok (.getfield 51, 3) := by decide +kernel
theorem dX1_copyFrom_67 : decode cX1_copyFrom 67 = .ok (.putfield 51, 3) := by decide +kernel
theorem dX1_copyFrom_70 : decode cX1_copyFrom 70 = .ok (.aload_n 0, 1) := by decide +kernel
theorem dX1_copyFrom_71 : decode cX1_copyFrom 71 = .ok (.aload_n 1, 1) := by decide +kernel
theorem dX1_copyFrom_72 : decode cX1_copyFrom 72 = .ok (.getfield 54, 3) := by decide +kernel
theorem dX1_copyFrom_75 : decode cX1_copyFrom 75 = .ok (.putfield 54, 3) := by decide +kernel
theorem dX1_copyFrom_78 : decode cX1_copyFrom 78 = .ok (.aload_n 0, 1) := by decide +kernel
theorem dX1_copyFrom_79 : decode cX1_copyFrom 79 = .ok (.aload_n 1, 1) := by decide +kernel
theorem dX1_copyFrom_80 : decode cX1_copyFrom 80 = .ok (.getfield 57, 3) := by decide +kernel
theorem dX1_copyFrom_83 : decode cX1_copyFrom 83 = .ok (.putfield 57, 3) := by decide +kernel
theorem dX1_copyFrom_86 : decode cX1_copyFrom 86 = .ok (.aload_n 0, 1) := by decide +kernel
theorem dX1_copyFrom_87 : decode cX1_copyFrom 87 = .ok (.aload_n 1, 1) := by decide +kernel
theorem dX1_copyFrom_88 : decode cX1_copyFrom 88 = .ok (.getfield 60, 3) := by decide +kernel
theorem dX1_copyFrom_91 : decode cX1_copyFrom 91 = .ok (.putfield 60, 3) := by decide +kernel
theorem dX1_copyFrom_94 : decode cX1_copyFrom 94 = .ok (.return_, 1) := by decide +kernel
theorem dX1_hasRod_0 : decode cX1_hasRod 0 = .ok (.iload_n 1, 1) := by decide +kernel
theorem dX1_hasRod_1 : decode cX1_hasRod 1 = .ok (.ifCond .lt 15, 3) := by decide +kernel
theorem dX1_hasRod_4 : decode cX1_hasRod 4 = .ok (.iload_n 1, 1) := by decide +kernel
theorem dX1_hasRod_5 : decode cX1_hasRod 5 = .ok (.aload_n 0, 1) := by decide +kernel
theorem dX1_hasRod_6 : decode cX1_hasRod 6 = .ok (.getfield 15, 3) := by decide +kernel
theorem dX1_hasRod_9 : decode cX1_hasRod 9 = .ok (.if_icmp .ge 7, 3) := by decide +kernel
theorem dX1_hasRod_12 : decode cX1_hasRod 12 = .ok (.iconst 1, 1) := by decide +kernel
theorem dX1_hasRod_13 : decode cX1_hasRod 13 = .ok (.goto 4, 3) := by decide +kernel
theorem dX1_hasRod_16 : decode cX1_hasRod 16 = .ok (.iconst 0, 1) := by decide +kernel
theorem dX1_hasRod_17 : decode cX1_hasRod 17 = .ok (.ireturn, 1) := by decide +kernel
theorem dX1_hasRodsFor_0 : decode cX1_hasRodsFor 0 = .ok (.lconst 1, 1) := by decide +kernel
theorem dX1_hasRodsFor_1 : decode cX1_hasRodsFor 1 = .ok (.lstore_n 3, 1) := by decide +kernel
theorem dX1_hasRodsFor_2 : decode cX1_hasRodsFor 2 = .ok (.iconst 0, 1) := by decide +kernel
theorem dX1_hasRodsFor_3 : decode cX1_hasRodsFor 3 = .ok (.istore 5, 2) := by decide +kernel
theorem dX1_hasRodsFor_5 : decode cX1_hasRodsFor 5 = .ok (.iload 5, 2) := by decide +kernel
theorem dX1_hasRodsFor_7 : decode cX1_hasRodsFor 7 = .ok (.aload_n 0, 1) := by decide +kernel
theorem dX1_hasRodsFor_8 : decode cX1_hasRodsFor 8 = .ok (.getfield 15, 3) := by decide +kernel
theorem dX1_hasRodsFor_11 : decode cX1_hasRodsFor 11 = .ok (.if_icmp .ge 15, 3) := by decide +kernel
theorem dX1_hasRodsFor_14 : decode cX1_hasRodsFor 14 = .ok (.lload_n 3, 1) := by decide +kernel
theorem dX1_hasRodsFor_15 : decode cX1_hasRodsFor 15 = .ok (.ldc2_w 63, 3) := by decide +kernel
theorem dX1_hasRodsFor_18 : decode cX1_hasRodsFor 18 = .ok (.lmul, 1) := by decide +kernel
theorem dX1_hasRodsFor_19 : decode cX1_hasRodsFor 19 = .ok (.lstore_n 3, 1) := by decide +kernel
theorem dX1_hasRodsFor_20 : decode cX1_hasRodsFor 20 = .ok (.iinc 5 1, 3) := by decide +kernel
theorem dX1_hasRodsFor_23 : decode cX1_hasRodsFor 23 = .ok (.goto (-18), 3) := by decide +kernel
theorem dX1_hasRodsFor_26 : decode cX1_hasRodsFor 26 = .ok (.lload_n 1, 1) := by decide +kernel
theorem dX1_hasRodsFor_27 : decode cX1_hasRodsFor 27 = .ok (.lconst 0, 1) := by decide +kernel
theorem dX1_hasRodsFor_28 : decode cX1_hasRodsFor 28 = .ok (.lcmp, 1) := by decide +kernel
theorem dX1_hasRodsFor_29 : decode cX1_hasRodsFor 29 = .ok (.ifCond .lt 13, 3) := by decide +kernel
theorem dX1_hasRodsFor_32 : decode cX1_hasRodsFor 32 = .ok (.lload_n 1, 1) := by decide +kernel
theorem dX1_hasRodsFor_33 : decode cX1_hasRodsFor 33 = .ok (.lload_n 3, 1) := by decide +kernel
theorem dX1_hasRodsFor_34 : decode cX1_hasRodsFor 34 = .ok (.lcmp, 1) := by decide +kernel
theorem dX1_hasRodsFor_35 : decode cX1_hasRodsFor 35 = .ok (.ifCond .ge 7, 3) := by decide +kernel
theorem dX1_hasRodsFor_38 : decode cX1_hasRodsFor 38 = .ok (.iconst 1, 1) := by decide +kernel
theorem dX1_hasRodsFor_39 : decode cX1_hasRodsFor 39 = .ok (.goto 4, 3) := by decide +kernel
theorem dX1_hasRodsFor_42 : decode cX1_hasRodsFor 42 = .ok (.iconst 0, 1) := by decide +kernel
theorem dX1_hasRodsFor_43 : decode cX1_hasRodsFor 43 = .ok (.ireturn, 1) := by decide +kernel
theorem dX1_valueAt_0 : decode cX1_valueAt 0 = .ok (.iconst 5, 1) := by decide +kernel
theorem dX1_valueAt_1 : decode cX1_valueAt 1 = .ok (.aload_n 0, 1) := by decide +kernel
theorem dX1_valueAt_2 : decode cX1_valueAt 2 = .ok (.getfield 27, 3) := by decide +kernel
theorem dX1_valueAt_5 : decode cX1_valueAt 5 = .ok (.iload_n 1, 1) := by decide +kernel
theorem dX1_valueAt_6 : decode cX1_valueAt 6 = .ok (.invokevirtual 65, 3) := by decide +kernel
theorem dX1_valueAt_9 : decode cX1_valueAt 9 = .ok (.imul, 1) := by decide +kernel
theorem dX1_valueAt_10 : decode cX1_valueAt 10 = .ok (.aload_n 0, 1) := by decide +kernel
theorem dX1_valueAt_11 : decode cX1_valueAt 11 = .ok (.getfield 34, 3) := by decide +kernel
theorem dX1_valueAt_14 : decode cX1_valueAt 14 = .ok (.iload_n 1, 1) := by decide +kernel
theorem dX1_valueAt_15 : decode cX1_valueAt 15 = .ok (.invokevirtual 65, 3) := by decide +kernel
theorem dX1_valueAt_18 : decode cX1_valueAt 18 = .ok (.iadd, 1) := by decide +kernel
theorem dX1_valueAt_19 : decode cX1_valueAt 19 = .ok (.ireturn, 1) := by decide +kernel
theorem dX1_mostOfRod_0 : decode cX1_mostOfRod 0 = .ok (.iconst 5, 1) := by decide +kernel
theorem dX1_mostOfRod_1 : decode cX1_mostOfRod 1 = .ok (.aload_n 0, 1) := by decide +kernel
theorem dX1_mostOfRod_2 : decode cX1_mostOfRod 2 = .ok (.getfield 27, 3) := by decide +kernel
theorem dX1_mostOfRod_5 : decode cX1_mostOfRod 5 = .ok (.getfield 69, 3) := by decide +kernel
theorem dX1_mostOfRod_8 : decode cX1_mostOfRod 8 = .ok (.imul, 1) := by decide +kernel
theorem dX1_mostOfRod_9 : decode cX1_mostOfRod 9 = .ok (.aload_n 0, 1) := by decide +kernel
theorem dX1_mostOfRod_10 : decode cX1_mostOfRod 10 = .ok (.getfield 34, 3) := by decide +kernel
theorem dX1_mostOfRod_13 : decode cX1_mostOfRod 13 = .ok (.getfield 69, 3) := by decide +kernel
theorem dX1_mostOfRod_16 : decode cX1_mostOfRod 16 = .ok (.iadd, 1) := by decide +kernel
theorem dX1_mostOfRod_17 : decode cX1_mostOfRod 17 = .ok (.ireturn, 1) := by decide +kernel
theorem dX1_shownNumber_0 : decode cX1_shownNumber 0 = .ok (.lconst 0, 1) := by decide +kernel
theorem dX1_shownNumber_1 : decode cX1_shownNumber 1 = .ok (.lstore_n 1, 1) := by decide +kernel
theorem dX1_shownNumber_2 : decode cX1_shownNumber 2 = .ok (.aload_n 0, 1) := by decide +kernel
theorem dX1_shownNumber_3 : decode cX1_shownNumber 3 = .ok (.getfield 15, 3) := by decide +kernel
theorem dX1_shownNumber_6 : decode cX1_shownNumber 6 = .ok (.iconst 1, 1) := by decide +kernel
theorem dX1_shownNumber_7 : decode cX1_shownNumber 7 = .ok (.isub, 1) := by decide +kernel
theorem dX1_shownNumber_8 : decode cX1_shownNumber 8 = .ok (.istore_n 3, 1) := by decide +kernel
theorem dX1_shownNumber_9 : decode cX1_shownNumber 9 = .ok (.iload_n 3, 1) := by decide +kernel
theorem dX1_shownNumber_10 : decode cX1_shownNumber 10 = .ok (.ifCond .lt 22, 3) := by decide +kernel
theorem dX1_shownNumber_13 : decode cX1_shownNumber 13 = .ok (.lload_n 1, 1) := by decide +kernel
theorem dX1_shownNumber_14 : decode cX1_shownNumber 14 = .ok (.ldc2_w 63, 3) := by decide +kernel
theorem dX1_shownNumber_17 : decode cX1_shownNumber 17 = .ok (.lmul, 1) := by decide +kernel
theorem dX1_shownNumber_18 : decode cX1_shownNumber 18 = .ok (.aload_n 0, 1) := by decide +kernel
theorem dX1_shownNumber_19 : decode cX1_shownNumber 19 = .ok (.iload_n 3, 1) := by decide +kernel
theorem dX1_shownNumber_20 : decode cX1_shownNumber 20 = .ok (.invokevirtual 72, 3) := by decide +kernel
theorem dX1_shownNumber_23 : decode cX1_shownNumber 23 = .ok (.i2l, 1) := by decide +kernel
theorem dX1_shownNumber_24 : decode cX1_shownNumber 24 = .ok (.ladd, 1) := by decide +kernel
theorem dX1_shownNumber_25 : decode cX1_shownNumber 25 = .ok (.lstore_n 1, 1) := by decide +kernel
theorem dX1_shownNumber_26 : decode cX1_shownNumber 26 = .ok (.iinc 3 (-1), 3) := by decide +kernel
theorem dX1_shownNumber_29 : decode cX1_shownNumber 29 = .ok (.goto (-20), 3) := by decide +kernel
theorem dX1_shownNumber_32 : decode cX1_shownNumber 32 = .ok (.lload_n 1, 1) := by decide +kernel
theorem dX1_shownNumber_33 : decode cX1_shownNumber 33 = .ok (.lreturn, 1) := by decide +kernel
theorem dX1_isTidy_0 : decode cX1_isTidy 0 = .ok (.iconst 0, 1) := by decide +kernel
theorem dX1_isTidy_1 : decode cX1_isTidy 1 = .ok (.istore_n 1, 1) := by decide +kernel
theorem dX1_isTidy_2 : decode cX1_isTidy 2 = .ok (.iload_n 1, 1) := by decide +kernel
theorem dX1_isTidy_3 : decode cX1_isTidy 3 = .ok (.aload_n 0, 1) := by decide +kernel
theorem dX1_isTidy_4 : decode cX1_isTidy 4 = .ok (.getfield 15, 3) := by decide +kernel
theorem dX1_isTidy_7 : decode cX1_isTidy 7 = .ok (.if_icmp .ge 21, 3) := by decide +kernel
theorem dX1_isTidy_10 : decode cX1_isTidy 10 = .ok (.aload_n 0, 1) := by decide +kernel
theorem dX1_isTidy_11 : decode cX1_isTidy 11 = .ok (.iload_n 1, 1) := by decide +kernel
theorem dX1_isTidy_12 : decode cX1_isTidy 12 = .ok (.invokevirtual 72, 3) := by decide +kernel
theorem dX1_isTidy_15 : decode cX1_isTidy 15 = .ok (.bipush 9, 2) := by decide +kernel
theorem dX1_isTidy_17 : decode cX1_isTidy 17 = .ok (.if_icmp .le 5, 3) := by decide +kernel
theorem dX1_isTidy_20 : decode cX1_isTidy 20 = .ok (.iconst 0, 1) := by decide +kernel
theorem dX1_isTidy_21 : decode cX1_isTidy 21 = .ok (.ireturn, 1) := by decide +kernel
theorem dX1_isTidy_22 : decode cX1_isTidy 22 = .ok (.iinc 1 1, 3) := by decide +kernel
theorem dX1_isTidy_25 : decode cX1_isTidy 25 = .ok (.goto (-23), 3) := by decide +kernel
theorem dX1_isTidy_28 : decode cX1_isTidy 28 = .ok (.iconst 1, 1) := by decide +kernel
theorem dX1_isTidy_29 : decode cX1_isTidy 29 = .ok (.ireturn, 1) := by decide +kernel
theorem dX1_moveHand_0 : decode cX1_moveHand 0 = .ok (.iload_n 1, 1) := by decide +kernel
theorem dX1_moveHand_1 : decode cX1_moveHand 1 = .ok (.aload_n 0, 1) := by decide +kernel
theorem dX1_moveHand_2 : decode cX1_moveHand 2 = .ok (.getfield 41, 3) := by decide +kernel
theorem dX1_moveHand_5 : decode cX1_moveHand 5 = .ok (.isub, 1) := by decide +kernel
theorem dX1_moveHand_6 : decode cX1_moveHand 6 = .ok (.invokestatic 75, 3) := by decide +kernel
theorem dX1_moveHand_9 : decode cX1_moveHand 9 = .ok (.istore_n 2, 1) := by decide +kernel
theorem dX1_moveHand_10 : decode cX1_moveHand 10 = .ok (.iload_n 2, 1) := by decide +kernel
theorem dX1_moveHand_11 : decode cX1_moveHand 11 = .ok (.ifCond .le 22, 3) := by decide +kernel
theorem dX1_moveHand_14 : decode cX1_moveHand 14 = .ok (.aload_n 0, 1) := by decide +kernel
theorem dX1_moveHand_15 : decode cX1_moveHand 15 = .ok (.aload_n 0, 1) := by decide +kernel
theorem dX1_moveHand_16 : decode cX1_moveHand 16 = .ok (.getfield 44, 3) := by decide +kernel
theorem dX1_moveHand_19 : decode cX1_moveHand 19 = .ok (.ldc 80, 2) := by decide +kernel
theorem dX1_moveHand_21 : decode cX1_moveHand 21 = .ok (.iload_n 2, 1) := by decide +kernel
theorem dX1_moveHand_22 : decode cX1_moveHand 22 = .ok (.i2f, 1) := by decide +kernel
theorem dX1_moveHand_23 : decode cX1_moveHand 23 = .ok (.fmul, 1) := by decide +kernel
theorem dX1_moveHand_24 : decode cX1_moveHand 24 = .ok (.fadd, 1) := by decide +kernel
theorem dX1_moveHand_25 : decode cX1_moveHand 25 = .ok (.putfield 44, 3) := by decide +kernel
theorem dX1_moveHand_28 : decode cX1_moveHand 28 = .ok (.aload_n 0, 1) := by decide +kernel
theorem dX1_moveHand_29 : decode cX1_moveHand 29 = .ok (.iload_n 1, 1) := by decide +kernel
theorem dX1_moveHand_30 : decode cX1_moveHand 30 = .ok (.putfield 41, 3) := by decide +kernel
theorem dX1_moveHand_33 : decode cX1_moveHand 33 = .ok (.return_, 1) := by decide +kernel
theorem dX1_pushDeck_0 : decode cX1_pushDeck 0 = .ok (.iload_n 2, 1) := by decide +kernel
theorem dX1_pushDeck_1 : decode cX1_pushDeck 1 = .ok (.ifCond .lt 21, 3) := by decide +kernel
theorem dX1_pushDeck_4 : decode cX1_pushDeck 4 = .ok (.iload_n 2, 1) := by decide +kernel
theorem dX1_pushDeck_5 : decode cX1_pushDeck 5 = .ok (.aload_n 1, 1) := by decide +kernel
theorem dX1_pushDeck_6 : decode cX1_pushDeck 6 = .ok (.getfield 81, 3) := by decide +kernel
theorem dX1_pushDeck_9 : decode cX1_pushDeck 9 = .ok (.arraylength, 1) := by decide +kernel
theorem dX1_pushDeck_10 : decode cX1_pushDeck 10 = .ok (.if_icmp .ge 12, 3) := by decide +kernel
theorem dX1_pushDeck_13 : decode cX1_pushDeck 13 = .ok (.iload_n 2, 1) := by decide +kernel
theorem dX1_pushDeck_14 : decode cX1_pushDeck 14 = .ok (.aload_n 1, 1) := by decide +kernel
theorem dX1_pushDeck_15 : decode cX1_pushDeck 15 = .ok (.getfield 84, 3) := by decide +kernel
theorem dX1_pushDeck_18 : decode cX1_pushDeck 18 = .ok (.arraylength, 1) := by decide +kernel
theorem dX1_pushDeck_19 : decode cX1_pushDeck 19 = .ok (.if_icmp .lt 4, 3) := by decide +kernel
theorem dX1_pushDeck_22 : decode cX1_pushDeck 22 = .ok (.return_, 1) := by decide +kernel
theorem dX1_pushDeck_23 : decode cX1_pushDeck 23 = .ok (.iload_n 3, 1) := by decide +kernel
theorem dX1_pushDeck_24 : decode cX1_pushDeck 24 = .ok (.invokestatic 75, 3) := by decide +kernel
theorem dX1_pushDeck_27 : decode cX1_pushDeck 27 = .ok (.istore 4, 2) := by decide +kernel
theorem dX1_pushDeck_29 : decode cX1_pushDeck 29 = .ok (.ldc 87, 2) := by decide +kernel
theorem dX1_pushDeck_31 : decode cX1_pushDeck 31 = .ok (.ldc 88, 2) := by decide +kernel
theorem dX1_pushDeck_33 : decode cX1_pushDeck 33 = .ok (.iload 4, 2) := by decide +kernel
theorem dX1_pushDeck_35 : decode cX1_pushDeck 35 = .ok (.i2f, 1) := by decide +kernel
theorem dX1_pushDeck_36 : decode cX1_pushDeck 36 = .ok (.fmul, 1) := by decide +kernel
theorem dX1_pushDeck_37 : decode cX1_pushDeck 37 = .ok (.fadd, 1) := by decide +kernel
theorem dX1_pushDeck_38 : decode cX1_pushDeck 38 = .ok (.fstore 5, 2) := by decide +kernel
theorem dX1_pushDeck_40 : decode cX1_pushDeck 40 = .ok (.aload_n 1, 1) := by decide +kernel
theorem dX1_pushDeck_41 : decode cX1_pushDeck 41 = .ok (.getfield 84, 3) := by decide +kernel
theorem dX1_pushDeck_44 : decode cX1_pushDeck 44 = .ok (.iload_n 2, 1) := by decide +kernel
theorem dX1_pushDeck_45 : decode cX1_pushDeck 45 = .ok (.iaload, 1) := by decide +kernel
theorem dX1_pushDeck_46 : decode cX1_pushDeck 46 = .ok (.bipush 40, 2) := by decide +kernel
theorem dX1_pushDeck_48 : decode cX1_pushDeck 48 = .ok (.if_icmp .lt 9, 3) := by decide +kernel
theorem dX1_pushDeck_51 : decode cX1_pushDeck 51 = .ok (.fload 5, 2) := by decide +kernel
theorem dX1_pushDeck_53 : decode cX1_pushDeck 53 = .ok (.fconst 2, 1) := by decide +kernel
theorem dX1_pushDeck_54 : decode cX1_pushDeck 54 = .ok (.fmul, 1) := by decide +kernel
theorem dX1_pushDeck_55 : decode cX1_pushDeck 55 = .ok (.fstore 5, 2) := by decide +kernel
theorem dX1_pushDeck_57 : decode cX1_pushDeck 57 = .ok (.aload_n 0, 1) := by decide +kernel
theorem dX1_pushDeck_58 : decode cX1_pushDeck 58 = .ok (.aload_n 0, 1) := by decide +kernel
theorem dX1_pushDeck_59 : decode cX1_pushDeck 59 = .ok (.getfield 44, 3) := by decide +kernel
theorem dX1_pushDeck_62 : decode cX1_pushDeck 62 = .ok (.fload 5, 2) := by decide +kernel
theorem dX1_pushDeck_64 : decode cX1_pushDeck 64 = .ok (.fadd, 1) := by decide +kernel
theorem dX1_pushDeck_65 : decode cX1_pushDeck 65 = .ok (.putfield 44, 3) := by decide +kernel
theorem dX1_pushDeck_68 : decode cX1_pushDeck 68 = .ok (.aload_n 1, 1) := by decide +kernel
theorem dX1_pushDeck_69 : decode cX1_pushDeck 69 = .ok (.getfield 81, 3) := by decide +kernel
theorem dX1_pushDeck_72 : decode cX1_pushDeck 72 = .ok (.iload_n 2, 1) := by decide +kernel
theorem dX1_pushDeck_73 : decode cX1_pushDeck 73 = .ok (.dup2, 1) := by decide +kernel
theorem dX1_pushDeck_74 : decode cX1_pushDeck 74 = .ok (.iaload, 1) := by decide +kernel
theorem dX1_pushDeck_75 : decode cX1_pushDeck 75 = .ok (.iload_n 3, 1) := by decide +kernel
theorem dX1_pushDeck_76 : decode cX1_pushDeck 76 = .ok (.iadd, 1) := by decide +kernel
theorem dX1_pushDeck_77 : decode cX1_pushDeck 77 = .ok (.iastore, 1) := by decide +kernel
theorem dX1_pushDeck_78 : decode cX1_pushDeck 78 = .ok (.aload_n 1, 1) := by decide +kernel
theorem dX1_pushDeck_79 : decode cX1_pushDeck 79 = .ok (.getfield 84, 3) := by decide +kernel
theorem dX1_pushDeck_82 : decode cX1_pushDeck 82 = .ok (.iload_n 2, 1) := by decide +kernel
theorem dX1_pushDeck_83 : decode cX1_pushDeck 83 = .ok (.dup2, 1) := by decide +kernel
theorem dX1_pushDeck_84 : decode cX1_pushDeck 84 = .ok (.iaload, 1) := by decide +kernel
theorem dX1_pushDeck_85 : decode cX1_pushDeck 85 = .ok (.iload 4, 2) := by decide +kernel
theorem dX1_pushDeck_87 : decode cX1_pushDeck 87 = .ok (.iadd, 1) := by decide +kernel
theorem dX1_pushDeck_88 : decode cX1_pushDeck 88 = .ok (.iastore, 1) := by decide +kernel
theorem dX1_pushDeck_89 : decode cX1_pushDeck 89 = .ok (.aload_n 0, 1) := by decide +kernel
theorem dX1_pushDeck_90 : decode cX1_pushDeck 90 = .ok (.dup, 1) := by decide +kernel
theorem dX1_pushDeck_91 : decode cX1_pushDeck 91 = .ok (.getfield 48, 3) := by decide +kernel
theorem dX1_pushDeck_94 : decode cX1_pushDeck 94 = .ok (.iconst 1, 1) := by decide +kernel
theorem dX1_pushDeck_95 : decode cX1_pushDeck 95 = .ok (.iadd, 1) := by decide +kernel
theorem dX1_pushDeck_96 : decode cX1_pushDeck 96 = .ok (.putfield 48, 3) := by decide +kernel
theorem dX1_pushDeck_99 : decode cX1_pushDeck 99 = .ok (.aload_n 0, 1) := by decide +kernel
theorem dX1_pushDeck_100 : decode cX1_pushDeck 100 = .ok (.dup, 1) := by decide +kernel
theorem dX1_pushDeck_101 : decode cX1_pushDeck 101 = .ok (.getfield 51, 3) := by decide +kernel
theorem dX1_pushDeck_104 : decode cX1_pushDeck 104 = .ok (.iload 4, 2) := by decide +kernel
theorem dX1_pushDeck_106 : decode cX1_pushDeck 106 = .ok (.iadd, 1) := by decide +kernel
theorem dX1_pushDeck_107 : decode cX1_pushDeck 107 = .ok (.putfield 51, 3) := by decide +kernel
theorem dX1_pushDeck_110 : decode cX1_pushDeck 110 = .ok (.return_, 1) := by decide +kernel
theorem dX1_setRod_0 : decode cX1_setRod 0 = .ok (.aload_n 0, 1) := by decide +kernel
theorem dX1_setRod_1 : decode cX1_setRod 1 = .ok (.getfield 27, 3) := by decide +kernel
theorem dX1_setRod_4 : decode cX1_setRod 4 = .ok (.iload_n 1, 1) := by decide +kernel
theorem dX1_setRod_5 : decode cX1_setRod 5 = .ok (.invokevirtual 65, 3) := by decide +kernel
theorem dX1_setRod_8 : decode cX1_setRod 8 = .ok (.istore_n 3, 1) := by decide +kernel
theorem dX1_setRod_9 : decode cX1_setRod 9 = .ok (.aload_n 0, 1) := by decide +kernel
theorem dX1_setRod_10 : decode cX1_setRod 10 = .ok (.getfield 34, 3) := by decide +kernel
theorem dX1_setRod_13 : decode cX1_setRod 13 = .ok (.iload_n 1, 1) := by decide +kernel
theorem dX1_setRod_14 : decode cX1_setRod 14 = .ok (.invokevirtual 65, 3) := by decide +kernel
theorem dX1_setRod_17 : decode cX1_setRod 17 = .ok (.istore 4, 2) := by decide +kernel
theorem dX1_setRod_19 : decode cX1_setRod 19 = .ok (.aload_n 0, 1) := by decide +kernel
theorem dX1_setRod_20 : decode cX1_setRod 20 = .ok (.iload_n 2, 1) := by decide +kernel
theorem dX1_setRod_21 : decode cX1_setRod 21 = .ok (.iload_n 3, 1) := by decide +kernel
theorem dX1_setRod_22 : decode cX1_setRod 22 = .ok (.iload 4, 2) := by decide +kernel
theorem dX1_setRod_24 : decode cX1_setRod 24 = .ok (.invokevirtual 89, 3) := by decide +kernel
theorem dX1_setRod_27 : decode cX1_setRod 27 = .ok (.istore 5, 2) := by decide +kernel
theorem dX1_setRod_29 : decode cX1_setRod 29 = .ok (.iload 5, 2) := by decide +kernel
theorem dX1_setRod_31 : decode cX1_setRod 31 = .ok (.iconst (-1), 1) := by decide +kernel
theorem dX1_setRod_32 : decode cX1_setRod 32 = .ok (.if_icmp .ne 4, 3) := by decide +kernel
theorem dX1_setRod_35 : decode cX1_setRod 35 = .ok (.return_, 1) := by decide +kernel
theorem dX1_setRod_36 : decode cX1_setRod 36 = .ok (.iload 5, 2) := by decide +kernel
theorem dX1_setRod_38 : decode cX1_setRod 38 = .ok (.iload_n 3, 1) := by decide +kernel
theorem dX1_setRod_39 : decode cX1_setRod 39 = .ok (.isub, 1) := by decide +kernel
theorem dX1_setRod_40 : decode cX1_setRod 40 = .ok (.istore 6, 2) := by decide +kernel
theorem dX1_setRod_42 : decode cX1_setRod 42 = .ok (.iload_n 2, 1) := by decide +kernel
theorem dX1_setRod_43 : decode cX1_setRod 43 = .ok (.iconst 5, 1) := by decide +kernel
theorem dX1_setRod_44 : decode cX1_setRod 44 = .ok (.iload 5, 2) := by decide +kernel
theorem dX1_setRod_46 : decode cX1_setRod 46 = .ok (.imul, 1) := by decide +kernel
theorem dX1_setRod_47 : decode cX1_setRod 47 = .ok (.isub, 1) := by decide +kernel
theorem dX1_setRod_48 : decode cX1_setRod 48 = .ok (.iload 4, 2) := by decide +kernel
theorem dX1_setRod_50 : decode cX1_setRod 50 = .ok (.isub, 1) := by decide +kernel
theorem dX1_setRod_51 : decode cX1_setRod 51 = .ok (.istore 7, 2) := by decide +kernel
theorem dX1_setRod_53 : decode cX1_setRod 53 = .ok (.iload 6, 2) := by decide +kernel
theorem dX1_setRod_55 : decode cX1_setRod 55 = .ok (.ifCond .ne 9, 3) := by decide +kernel
theorem dX1_setRod_58 : decode cX1_setRod 58 = .ok (.iload 7, 2) := by decide +kernel
theorem dX1_setRod_60 : decode cX1_setRod 60 = .ok (.ifCond .ne 4, 3) := by decide +kernel
theorem dX1_setRod_63 : decode cX1_setRod 63 = .ok (.return_, 1) := by decide +kernel
theorem dX1_setRod_64 : decode cX1_setRod 64 = .ok (.aload_n 0, 1) := by decide +kernel
theorem dX1_setRod_65 : decode cX1_setRod 65 = .ok (.iload_n 1, 1) := by decide +kernel
theorem dX1_setRod_66 : decode cX1_setRod 66 = .ok (.invokevirtual 93, 3) := by decide +kernel
theorem dX1_setRod_69 : decode cX1_setRod 69 = .ok (.iload 6, 2) := by decide +kernel
theorem dX1_setRod_71 : decode cX1_setRod 71 = .ok (.ifCond .eq 14, 3) := by decide +kernel
theorem dX1_setRod_74 : decode cX1_setRod 74 = .ok (.aload_n 0, 1) := by decide +kernel
theorem dX1_setRod_75 : decode cX1_setRod 75 = .ok (.aload_n 0, 1) := by decide +kernel
theorem dX1_setRod_76 : decode cX1_setRod 76 = .ok (.getfield 27, 3) := by decide +kernel
theorem dX1_setRod_79 : decode cX1_setRod 79 = .ok (.iload_n 1, 1) := by decide +kernel
theorem dX1_setRod_80 : decode cX1_setRod 80 = .ok (.iload 6, 2) := by decide +kernel
theorem dX1_setRod_82 : decode cX1_setRod 82 = .ok (.invokevirtual 96, 3) := by decide +kernel
theorem dX1_setRod_85 : decode cX1_setRod 85 = .ok (.iload 7, 2) := by decide +kernel
theorem dX1_setRod_87 : decode cX1_setRod 87 = .ok (.ifCond .eq 14, 3) := by decide +kernel
theorem dX1_setRod_90 : decode cX1_setRod 90 = .ok (.aload_n 0, 1) := by decide +kernel
theorem dX1_setRod_91 : decode cX1_setRod 91 = .ok (.aload_n 0, 1) := by decide +kernel
theorem dX1_setRod_92 : decode cX1_setRod 92 = .ok (.getfield 34, 3) := by decide +kernel
theorem dX1_setRod_95 : decode cX1_setRod 95 = .ok (.iload_n 1, 1) := by decide +kernel
theorem dX1_setRod_96 : decode cX1_setRod 96 = .ok (.iload 7, 2) := by decide +kernel
theorem dX1_setRod_98 : decode cX1_setRod 98 = .ok (.invokevirtual 96, 3) := by decide +kernel
theorem dX1_setRod_101 : decode cX1_setRod 101 = .ok (.return_, 1) := by decide +kernel
theorem dX1_bestUp_0 : decode cX1_bestUp 0 = .ok (.iconst (-1), 1) := by decide +kernel
theorem dX1_bestUp_1 : decode cX1_bestUp 1 = .ok (.istore 4, 2) := by decide +kernel
theorem dX1_bestUp_3 : decode cX1_bestUp 3 = .ok (.iconst 0, 1) := by decide +kernel
theorem dX1_bestUp_4 : decode cX1_bestUp 4 = .ok (.istore 5, 2) := by decide +kernel
theorem dX1_bestUp_6 : decode cX1_bestUp 6 = .ok (.iconst 0, 1) := by decide +kernel
theorem dX1_bestUp_7 : decode cX1_bestUp 7 = .ok (.istore 6, 2) := by decide +kernel
theorem dX1_bestUp_9 : decode cX1_bestUp 9 = .ok (.aload_n 0, 1) := by decide +kernel
theorem dX1_bestUp_10 : decode cX1_bestUp 10 = .ok (.getfield 27, 3) := by decide +kernel
theorem dX1_bestUp_13 : decode cX1_bestUp 13 = .ok (.getfield 69, 3) := by decide +kernel
theorem dX1_bestUp_16 : decode cX1_bestUp 16 = .ok (.istore 7, 2) := by decide +kernel
theorem dX1_bestUp_18 : decode cX1_bestUp 18 = .ok (.iload 7, 2) := by decide +kernel
theorem dX1_bestUp_20 : decode cX1_bestUp 20 = .ok (.ifCond .lt 121, 3) := by decide +kernel
theorem dX1_bestUp_23 : decode cX1_bestUp 23 = .ok (.iload_n 1, 1) := by decide +kernel
theorem dX1_bestUp_24 : decode cX1_bestUp 24 = .ok (.iconst 5, 1) := by decide +kernel
theorem dX1_bestUp_25 : decode cX1_bestUp 25 = .ok (.iload 7, 2) := by decide +kernel
theorem dX1_bestUp_27 : decode cX1_bestUp 27 = .ok (.imul, 1) := by decide +kernel
theorem dX1_bestUp_28 : decode cX1_bestUp 28 = .ok (.isub, 1) := by decide +kernel
theorem dX1_bestUp_29 : decode cX1_bestUp 29 = .ok (.istore 8, 2) := by decide +kernel
theorem dX1_bestUp_31 : decode cX1_bestUp 31 = .ok (.iload 8, 2) := by decide +kernel
theorem dX1_bestUp_33 : decode cX1_bestUp 33 = .ok (.ifCond .lt 102, 3) := by decide +kernel
theorem dX1_bestUp_36 : decode cX1_bestUp 36 = .ok (.iload 8, 2) := by decide +kernel
theorem dX1_bestUp_38 : decode cX1_bestUp 38 = .ok (.aload_n 0, 1) := by decide +kernel
theorem dX1_bestUp_39 : decode cX1_bestUp 39 = .ok (.getfield 34, 3) := by decide +kernel
theorem dX1_bestUp_42 : decode cX1_bestUp 42 = .ok (.getfield 69, 3) := by decide +kernel
theorem dX1_bestUp_45 : decode cX1_bestUp 45 = .ok (.if_icmp .gt 90, 3) := by decide +kernel
theorem dX1_bestUp_48 : decode cX1_bestUp 48 = .ok (.iload 7, 2) := by decide +kernel
theorem dX1_bestUp_50 : decode cX1_bestUp 50 = .ok (.iload_n 2, 1) := by decide +kernel
theorem dX1_bestUp_51 : decode cX1_bestUp 51 = .ok (.isub, 1) := by decide +kernel
theorem dX1_bestUp_52 : decode cX1_bestUp 52 = .ok (.invokestatic 75, 3) := by decide +kernel
theorem dX1_bestUp_55 : decode cX1_bestUp 55 = .ok (.istore 9, 2) := by decide +kernel
theorem dX1_bestUp_57 : decode cX1_bestUp 57 = .ok (.iload 8, 2) := by decide +kernel
theorem dX1_bestUp_59 : decode cX1_bestUp 59 = .ok (.iload_n 3, 1) := by decide +kernel
theorem dX1_bestUp_60 : decode cX1_bestUp 60 = .ok (.isub, 1) := by decide +kernel
theorem dX1_bestUp_61 : decode cX1_bestUp 61 = .ok (.invokestatic 75, 3) := by decide +kernel
theorem dX1_bestUp_64 : decode cX1_bestUp 64 = .ok (.istore 10, 2) := by decide +kernel
theorem dX1_bestUp_66 : decode cX1_bestUp 66 = .ok (.iload 9, 2) := by decide +kernel
theorem dX1_bestUp_68 : decode cX1_bestUp 68 = .ok (.ifCond .le 7, 3) := by decide +kernel
theorem dX1_bestUp_71 : decode cX1_bestUp 71 = .ok (.iconst 1, 1) := by decide +kernel
theorem dX1_bestUp_72 : decode cX1_bestUp 72 = .ok (.goto 4, 3) := by decide +kernel
theorem dX1_bestUp_75 : decode cX1_bestUp 75 = .ok (.iconst 0, 1) := by decide +kernel
theorem dX1_bestUp_76 : decode cX1_bestUp 76 = .ok (.iload 10, 2) := by decide +kernel
theorem dX1_bestUp_78 : decode cX1_bestUp 78 = .ok (.ifCond .le 7, 3) := by decide +kernel
theorem dX1_bestUp_81 : decode cX1_bestUp 81 = .ok (.iconst 1, 1) := by decide +kernel
theorem dX1_bestUp_82 : decode cX1_bestUp 82 = .ok (.goto 4, 3) := by decide +kernel
theorem dX1_bestUp_85 : decode cX1_bestUp 85 = .ok (.iconst 0, 1) := by decide +kernel
theorem dX1_bestUp_86 : decode cX1_bestUp 86 = .ok (.iadd, 1) := by decide +kernel
theorem dX1_bestUp_87 : decode cX1_bestUp 87 = .ok (.istore 11, 2) := by decide +kernel
theorem dX1_bestUp_89 : decode cX1_bestUp 89 = .ok (.iload 9, 2) := by decide +kernel
theorem dX1_bestUp_91 : decode cX1_bestUp 91 = .ok (.iload 10, 2) := by decide +kernel
theorem dX1_bestUp_93 : decode cX1_bestUp 93 = .ok (.iadd, 1) := by decide +kernel
theorem dX1_bestUp_94 : decode cX1_bestUp 94 = .ok (.istore 12, 2) := by decide +kernel
theorem dX1_bestUp_96 : decode cX1_bestUp 96 = .ok (.iload 4, 2) := by decide +kernel
theorem dX1_bestUp_98 : decode cX1_bestUp 98 = .ok (.iconst (-1), 1) := by decide +kernel
theorem dX1_bestUp_99 : decode cX1_bestUp 99 = .ok (.if_icmp .eq 24, 3) := by decide +kernel
theorem dX1_bestUp_102 : decode cX1_bestUp 102 = .ok (.iload 11, 2) := by decide +kernel
theorem dX1_bestUp_104 : decode cX1_bestUp 104 = .ok (.iload 5, 2) := by decide +kernel
theorem dX1_bestUp_106 : decode cX1_bestUp 106 = .ok (.if_icmp .lt 17, 3) := by decide +kernel
theorem dX1_bestUp_109 : decode cX1_bestUp 109 = .ok (.iload 11, 2) := by decide +kernel
theorem dX1_bestUp_111 : decode cX1_bestUp 111 = .ok (.iload 5, 2) := by decide +kernel
theorem dX1_bestUp_113 : decode cX1_bestUp 113 = .ok (.if_icmp .ne 22, 3) := by decide +kernel
theorem dX1_bestUp_116 : decode cX1_bestUp 116 = .ok (.iload 12, 2) := by decide +kernel
theorem dX1_bestUp_118 : decode cX1_bestUp 118 = .ok (.iload 6, 2) := by decide +kernel
theorem dX1_bestUp_120 : decode cX1_bestUp 120 = .ok (.if_icmp .ge 15, 3) := by decide +kernel
theorem dX1_bestUp_123 : decode cX1_bestUp 123 = .ok (.iload 7, 2) := by decide +kernel
theorem dX1_bestUp_125 : decode cX1_bestUp 125 = .ok (.istore 4, 2) := by decide +kernel
theorem dX1_bestUp_127 : decode cX1_bestUp 127 = .ok (.iload 11, 2) := by decide +kernel
theorem dX1_bestUp_129 : decode cX1_bestUp 129 = .ok (.istore 5, 2) := by decide +kernel
theorem dX1_bestUp_131 : decode cX1_bestUp 131 = .ok (.iload 12, 2) := by decide +kernel
theorem dX1_bestUp_133 : decode cX1_bestUp 133 = .ok (.istore 6, 2) := by decide +kernel
theorem dX1_bestUp_135 : decode cX1_bestUp 135 = .ok (.iinc 7 (-1), 3) := by decide +kernel
theorem dX1_bestUp_138 : decode cX1_bestUp 138 = .ok (.goto (-120), 3) := by decide +kernel
theorem dX1_bestUp_141 : decode cX1_bestUp 141 = .ok (.iload 4, 2) := by decide +kernel
theorem dX1_bestUp_143 : decode cX1_bestUp 143 = .ok (.ireturn, 1) := by decide +kernel
theorem dX1_setRods_0 : decode cX1_setRods 0 = .ok (.aload_n 0, 1) := by decide +kernel
theorem dX1_setRods_1 : decode cX1_setRods 1 = .ok (.getfield 15, 3) := by decide +kernel
theorem dX1_setRods_4 : decode cX1_setRods 4 = .ok (.iconst 1, 1) := by decide +kernel
theorem dX1_setRods_5 : decode cX1_setRods 5 = .ok (.isub, 1) := by decide +kernel
theorem dX1_setRods_6 : decode cX1_setRods 6 = .ok (.istore_n 3, 1) := by decide +kernel
theorem dX1_setRods_7 : decode cX1_setRods 7 = .ok (.iload_n 3, 1) := by decide +kernel
theorem dX1_setRods_8 : decode cX1_setRods 8 = .ok (.ifCond .lt 19, 3) := by decide +kernel
theorem dX1_setRods_11 : decode cX1_setRods 11 = .ok (.aload_n 0, 1) := by decide +kernel
theorem dX1_setRods_12 : decode cX1_setRods 12 = .ok (.iload_n 3, 1) := by decide +kernel
theorem dX1_setRods_13 : decode cX1_setRods 13 = .ok (.lload_n 1, 1) := by decide +kernel
theorem dX1_setRods_14 : decode cX1_setRods 14 = .ok (.iload_n 3, 1) := by decide +kernel
theorem dX1_setRods_15 : decode cX1_setRods 15 = .ok (.invokestatic 100, 3) := by decide +kernel
theorem dX1_setRods_18 : decode cX1_setRods 18 = .ok (.invokevirtual 104, 3) := by decide +kernel
theorem dX1_setRods_21 : decode cX1_setRods 21 = .ok (.iinc 3 (-1), 3) := by decide +kernel
theorem dX1_setRods_24 : decode cX1_setRods 24 = .ok (.goto (-17), 3) := by decide +kernel
theorem dX1_setRods_27 : decode cX1_setRods 27 = .ok (.return_, 1) := by decide +kernel
theorem dX1_digitAt_0 : decode cX1_digitAt 0 = .ok (.lload_n 0, 1) := by decide +kernel
theorem dX1_digitAt_1 : decode cX1_digitAt 1 = .ok (.lstore_n 3, 1) := by decide +kernel
theorem dX1_digitAt_2 : decode cX1_digitAt 2 = .ok (.iconst 0, 1) := by decide +kernel
theorem dX1_digitAt_3 : decode cX1_digitAt 3 = .ok (.istore 5, 2) := by decide +kernel
theorem dX1_digitAt_5 : decode cX1_digitAt 5 = .ok (.iload 5, 2) := by decide +kernel
theorem dX1_digitAt_7 : decode cX1_digitAt 7 = .ok (.iload_n 2, 1) := by decide +kernel
theorem dX1_digitAt_8 : decode cX1_digitAt 8 = .ok (.if_icmp .ge 15, 3) := by decide +kernel
theorem dX1_digitAt_11 : decode cX1_digitAt 11 = .ok (.lload_n 3, 1) := by decide +kernel
theorem dX1_digitAt_12 : decode cX1_digitAt 12 = .ok (.ldc2_w 63, 3) := by decide +kernel
theorem dX1_digitAt_15 : decode cX1_digitAt 15 = .ok (.ldiv, 1) := by decide +kernel
theorem dX1_digitAt_16 : decode cX1_digitAt 16 = .ok (.lstore_n 3, 1) := by decide +kernel
theorem dX1_digitAt_17 : decode cX1_digitAt 17 = .ok (.iinc 5 1, 3) := by decide +kernel
theorem dX1_digitAt_20 : decode cX1_digitAt 20 = .ok (.goto (-15), 3) := by decide +kernel
theorem dX1_digitAt_23 : decode cX1_digitAt 23 = .ok (.lload_n 3, 1) := by decide +kernel
theorem dX1_digitAt_24 : decode cX1_digitAt 24 = .ok (.ldc2_w 63, 3) := by decide +kernel
theorem dX1_digitAt_27 : decode cX1_digitAt 27 = .ok (.lrem, 1) := by decide +kernel
theorem dX1_digitAt_28 : decode cX1_digitAt 28 = .ok (.l2i, 1) := by decide +kernel
theorem dX1_digitAt_29 : decode cX1_digitAt 29 = .ok (.ireturn, 1) := by decide +kernel
theorem dX1_bring_0 : decode cX1_bring 0 = .ok (.iload_n 2, 1) := by decide +kernel
theorem dX1_bring_1 : decode cX1_bring 1 = .ok (.istore_n 3, 1) := by decide +kernel
theorem dX1_bring_2 : decode cX1_bring 2 = .ok (.iload_n 1, 1) := by decide +kernel
theorem dX1_bring_3 : decode cX1_bring 3 = .ok (.istore 4, 2) := by decide +kernel
theorem dX1_bring_5 : decode cX1_bring 5 = .ok (.iload 4, 2) := by decide +kernel
theorem dX1_bring_7 : decode cX1_bring 7 = .ok (.aload_n 0, 1) := by decide +kernel
theorem dX1_bring_8 : decode cX1_bring 8 = .ok (.getfield 15, 3) := by decide +kernel
theorem dX1_bring_11 : decode cX1_bring 11 = .ok (.if_icmp .ge 66, 3) := by decide +kernel
theorem dX1_bring_14 : decode cX1_bring 14 = .ok (.iload_n 3, 1) := by decide +kernel
theorem dX1_bring_15 : decode cX1_bring 15 = .ok (.ifCond .le 62, 3) := by decide +kernel
theorem dX1_bring_18 : decode cX1_bring 18 = .ok (.aload_n 0, 1) := by decide +kernel
theorem dX1_bring_19 : decode cX1_bring 19 = .ok (.iload 4, 2) := by decide +kernel
theorem dX1_bring_21 : decode cX1_bring 21 = .ok (.invokevirtual 72, 3) := by decide +kernel
theorem dX1_bring_24 : decode cX1_bring 24 = .ok (.iload_n 3, 1) := by decide +kernel
theorem dX1_bring_25 : decode cX1_bring 25 = .ok (.iadd, 1) := by decide +kernel
theorem dX1_bring_26 : decode cX1_bring 26 = .ok (.istore 5, 2) := by decide +kernel
theorem dX1_bring_28 : decode cX1_bring 28 = .ok (.iload 5, 2) := by decide +kernel
theorem dX1_bring_30 : decode cX1_bring 30 = .ok (.bipush 9, 2) := by decide +kernel
theorem dX1_bring_32 : decode cX1_bring 32 = .ok (.if_icmp .gt 16, 3) := by decide +kernel
theorem dX1_bring_35 : decode cX1_bring 35 = .ok (.aload_n 0, 1) := by decide +kernel
theorem dX1_bring_36 : decode cX1_bring 36 = .ok (.iload 4, 2) := by decide +kernel
theorem dX1_bring_38 : decode cX1_bring 38 = .ok (.iload 5, 2) := by decide +kernel
theorem dX1_bring_40 : decode cX1_bring 40 = .ok (.invokevirtual 104, 3) := by decide +kernel
theorem dX1_bring_43 : decode cX1_bring 43 = .ok (.iconst 0, 1) := by decide +kernel
theorem dX1_bring_44 : decode cX1_bring 44 = .ok (.istore_n 3, 1) := by decide +kernel
theorem dX1_bring_45 : decode cX1_bring 45 = .ok (.goto 26, 3) := by decide +kernel
theorem dX1_bring_48 : decode cX1_bring 48 = .ok (.aload_n 0, 1) := by decide +kernel
theorem dX1_bring_49 : decode cX1_bring 49 = .ok (.iload 4, 2) := by decide +kernel
theorem dX1_bring_51 : decode cX1_bring 51 = .ok (.iload 5, 2) := by decide +kernel
theorem dX1_bring_53 : decode cX1_bring 53 = .ok (.bipush 10, 2) := by decide +kernel
theorem dX1_bring_55 : decode cX1_bring 55 = .ok (.isub, 1) := by decide +kernel
theorem dX1_bring_56 : decode cX1_bring 56 = .ok (.invokevirtual 104, 3) := by decide +kernel
theorem dX1_bring_59 : decode cX1_bring 59 = .ok (.aload_n 0, 1) := by decide +kernel
theorem dX1_bring_60 : decode cX1_bring 60 = .ok (.dup, 1) := by decide +kernel
theorem dX1_bring_61 : decode cX1_bring 61 = .ok (.getfield 54, 3) := by decide +kernel
theorem dX1_bring_64 : decode cX1_bring 64 = .ok (.iconst 1, 1) := by decide +kernel
theorem dX1_bring_65 : decode cX1_bring 65 = .ok (.iadd, 1) := by decide +kernel
theorem dX1_bring_66 : decode cX1_bring 66 = .ok (.putfield 54, 3) := by decide +kernel
theorem dX1_bring_69 : decode cX1_bring 69 = .ok (.iconst 1, 1) := by decide +kernel
theorem dX1_bring_70 : decode cX1_bring 70 = .ok (.istore_n 3, 1) := by decide +kernel
theorem dX1_bring_71 : decode cX1_bring 71 = .ok (.iinc 4 1, 3) := by decide +kernel
theorem dX1_bring_74 : decode cX1_bring 74 = .ok (.goto (-69), 3) := by decide +kernel
theorem dX1_bring_77 : decode cX1_bring 77 = .ok (.aload_n 0, 1) := by decide +kernel
theorem dX1_bring_78 : decode cX1_bring 78 = .ok (.dup, 1) := by decide +kernel
theorem dX1_bring_79 : decode cX1_bring 79 = .ok (.getfield 60, 3) := by decide +kernel
theorem dX1_bring_82 : decode cX1_bring 82 = .ok (.iload_n 3, 1) := by decide +kernel
theorem dX1_bring_83 : decode cX1_bring 83 = .ok (.iadd, 1) := by decide +kernel
theorem dX1_bring_84 : decode cX1_bring 84 = .ok (.putfield 60, 3) := by decide +kernel
theorem dX1_bring_87 : decode cX1_bring 87 = .ok (.return_, 1) := by decide +kernel
theorem dX1_bringNumber_0 : decode cX1_bringNumber 0 = .ok (.aload_n 0, 1) := by decide +kernel
theorem dX1_bringNumber_1 : decode cX1_bringNumber 1 = .ok (.getfield 15, 3) := by decide +kernel
theorem dX1_bringNumber_4 : decode cX1_bringNumber 4 = .ok (.iconst 1, 1) := by decide +kernel
theorem dX1_bringNumber_5 : decode cX1_bringNumber 5 = .ok (.isub, 1) := by decide +kernel
theorem dX1_bringNumber_6 : decode cX1_bringNumber 6 = .ok (.istore_n 3, 1) := by decide +kernel
theorem dX1_bringNumber_7 : decode cX1_bringNumber 7 = .ok (.iload_n 3, 1) := by decide +kernel
theorem dX1_bringNumber_8 : decode cX1_bringNumber 8 = .ok (.ifCond .lt 19, 3) := by decide +kernel
theorem dX1_bringNumber_11 : decode cX1_bringNumber 11 = .ok (.aload_n 0, 1) := by decide +kernel
theorem dX1_bringNumber_12 : decode cX1_bringNumber 12 = .ok (.iload_n 3, 1) := by decide +kernel
theorem dX1_bringNumber_13 : decode cX1_bringNumber 13 = .ok (.lload_n 1, 1) := by decide +kernel
theorem dX1_bringNumber_14 : decode cX1_bringNumber 14 = .ok (.iload_n 3, 1) := by decide +kernel
theorem dX1_bringNumber_15 : decode cX1_bringNumber 15 = .ok (.invokestatic 100, 3) := by decide +kernel
theorem dX1_bringNumber_18 : decode cX1_bringNumber 18 = .ok (.invokevirtual 108, 3) := by decide +kernel
theorem dX1_bringNumber_21 : decode cX1_bringNumber 21 = .ok (.iinc 3 (-1), 3) := by decide +kernel
theorem dX1_bringNumber_24 : decode cX1_bringNumber 24 = .ok (.goto (-17), 3) := by decide +kernel
theorem dX1_bringNumber_27 : decode cX1_bringNumber 27 = .ok (.return_, 1) := by decide +kernel
theorem dX1_takeNumber_0 : decode cX1_takeNumber 0 = .ok (.aload_n 0, 1) := by decide +kernel
theorem dX1_takeNumber_1 : decode cX1_takeNumber 1 = .ok (.getfield 15, 3) := by decide +kernel
theorem dX1_takeNumber_4 : decode cX1_takeNumber 4 = .ok (.iconst 1, 1) := by decide +kernel
theorem dX1_takeNumber_5 : decode cX1_takeNumber 5 = .ok (.isub, 1) := by decide +kernel
theorem dX1_takeNumber_6 : decode cX1_takeNumber 6 = .ok (.istore_n 3, 1) := by decide +kernel
theorem dX1_takeNumber_7 : decode cX1_takeNumber 7 = .ok (.iload_n 3, 1) := by decide +kernel
theorem dX1_takeNumber_8 : decode cX1_takeNumber 8 = .ok (.ifCond .lt 19, 3) := by decide +kernel
theorem dX1_takeNumber_11 : decode cX1_takeNumber 11 = .ok (.aload_n 0, 1) := by decide +kernel
theorem dX1_takeNumber_12 : decode cX1_takeNumber 12 = .ok (.iload_n 3, 1) := by decide +kernel
theorem dX1_takeNumber_13 : decode cX1_takeNumber 13 = .ok (.lload_n 1, 1) := by decide +kernel
theorem dX1_takeNumber_14 : decode cX1_takeNumber 14 = .ok (.iload_n 3, 1) := by decide +kernel
theorem dX1_takeNumber_15 : decode cX1_takeNumber 15 = .ok (.invokestatic 100, 3) := by decide +kernel
theorem dX1_takeNumber_18 : decode cX1_takeNumber 18 = .ok (.invokevirtual 111, 3) := by decide +kernel
theorem dX1_takeNumber_21 : decode cX1_takeNumber 21 = .ok (.iinc 3 (-1), 3) := by decide +kernel
theorem dX1_takeNumber_24 : decode cX1_takeNumber 24 = .ok (.goto (-17), 3) := by decide +kernel
theorem dX1_takeNumber_27 : decode cX1_takeNumber 27 = .ok (.return_, 1) := by decide +kernel
theorem dX1_takeDigit_0 : decode cX1_takeDigit 0 = .ok (.aload_n 0, 1) := by decide +kernel
theorem dX1_takeDigit_1 : decode cX1_takeDigit 1 = .ok (.iload_n 1, 1) := by decide +kernel
theorem dX1_takeDigit_2 : decode cX1_takeDigit 2 = .ok (.invokevirtual 72, 3) := by decide +kernel
theorem dX1_takeDigit_5 : decode cX1_takeDigit 5 = .ok (.istore_n 3, 1) := by decide +kernel
theorem dX1_takeDigit_6 : decode cX1_takeDigit 6 = .ok (.iload_n 2, 1) := by decide +kernel
theorem dX1_takeDigit_7 : decode cX1_takeDigit 7 = .ok (.iload_n 3, 1) := by decide +kernel
theorem dX1_takeDigit_8 : decode cX1_takeDigit 8 = .ok (.if_icmp .gt 12, 3) := by decide +kernel
theorem dX1_takeDigit_11 : decode cX1_takeDigit 11 = .ok (.aload_n 0, 1) := by decide +kernel
theorem dX1_takeDigit_12 : decode cX1_takeDigit 12 = .ok (.iload_n 1, 1) := by decide +kernel
theorem dX1_takeDigit_13 : decode cX1_takeDigit 13 = .ok (.iload_n 3, 1) := by decide +kernel
theorem dX1_takeDigit_14 : decode cX1_takeDigit 14 = .ok (.iload_n 2, 1) := by decide +kernel
theorem dX1_takeDigit_15 : decode cX1_takeDigit 15 = .ok (.isub, 1) := by decide +kernel
theorem dX1_takeDigit_16 : decode cX1_takeDigit 16 = .ok (.invokevirtual 104, 3) := by decide +kernel
theorem dX1_takeDigit_19 : decode cX1_takeDigit 19 = .ok (.return_, 1) := by decide +kernel
theorem dX1_takeDigit_20 : decode cX1_takeDigit 20 = .ok (.iload_n 1, 1) := by decide +kernel
theorem dX1_takeDigit_21 : decode cX1_takeDigit 21 = .ok (.iconst 1, 1) := by decide +kernel
theorem dX1_takeDigit_22 : decode cX1_takeDigit 22 = .ok (.iadd, 1) := by decide +kernel
theorem dX1_takeDigit_23 : decode cX1_takeDigit 23 = .ok (.istore 4, 2) := by decide +kernel
theorem dX1_takeDigit_25 : decode cX1_takeDigit 25 = .ok (.iload 4, 2) := by decide +kernel
theorem dX1_takeDigit_27 : decode cX1_takeDigit 27 = .ok (.aload_n 0, 1) := by decide +kernel
theorem dX1_takeDigit_28 : decode cX1_takeDigit 28 = .ok (.getfield 15, 3) := by decide +kernel
theorem dX1_takeDigit_31 : decode cX1_takeDigit 31 = .ok (.if_icmp .ge 18, 3) := by decide +kernel
theorem dX1_takeDigit_34 : decode cX1_takeDigit 34 = .ok (.aload_n 0, 1) := by decide +kernel
theorem dX1_takeDigit_35 : decode cX1_takeDigit 35 = .ok (.iload 4, 2) := by decide +kernel
theorem dX1_takeDigit_37 : decode cX1_takeDigit 37 = .ok (.invokevirtual 72, 3) := by decide +kernel
theorem dX1_takeDigit_40 : decode cX1_takeDigit 40 = .ok (.ifCond .ne 9, 3) := by decide +kernel
theorem dX1_takeDigit_43 : decode cX1_takeDigit 43 = .ok (.iinc 4 1, 3) := by decide +kernel
theorem dX1_takeDigit_46 : decode cX1_takeDigit 46 = .ok (.goto (-21), 3) := by decide +kernel
theorem dX1_takeDigit_49 : decode cX1_takeDigit 49 = .ok (.aload_n 0, 1) := by decide +kernel
theorem dX1_takeDigit_50 : decode cX1_takeDigit 50 = .ok (.iload 4, 2) := by decide +kernel
theorem dX1_takeDigit_52 : decode cX1_takeDigit 52 = .ok (.aload_n 0, 1) := by decide +kernel
theorem dX1_takeDigit_53 : decode cX1_takeDigit 53 = .ok (.iload 4, 2) := by decide +kernel
theorem dX1_takeDigit_55 : decode cX1_takeDigit 55 = .ok (.invokevirtual 72, 3) := by decide +kernel
theorem dX1_takeDigit_58 : decode cX1_takeDigit 58 = .ok (.iconst 1, 1) := by decide +kernel
theorem dX1_takeDigit_59 : decode cX1_takeDigit 59 = .ok (.isub, 1) := by decide +kernel
theorem dX1_takeDigit_60 : decode cX1_takeDigit 60 = .ok (.invokevirtual 104, 3) := by decide +kernel
theorem dX1_takeDigit_63 : decode cX1_takeDigit 63 = .ok (.iload 4, 2) := by decide +kernel
theorem dX1_takeDigit_65 : decode cX1_takeDigit 65 = .ok (.iconst 1, 1) := by decide +kernel
theorem dX1_takeDigit_66 : decode cX1_takeDigit 66 = .ok (.isub, 1) := by decide +kernel
theorem dX1_takeDigit_67 : decode cX1_takeDigit 67 = .ok (.istore 5, 2) := by decide +kernel
theorem dX1_takeDigit_69 : decode cX1_takeDigit 69 = .ok (.iload 5, 2) := by decide +kernel
theorem dX1_takeDigit_71 : decode cX1_takeDigit 71 = .ok (.iload_n 1, 1) := by decide +kernel
theorem dX1_takeDigit_72 : decode cX1_takeDigit 72 = .ok (.if_icmp .le 17, 3) := by decide +kernel
theorem dX1_takeDigit_75 : decode cX1_takeDigit 75 = .ok (.aload_n 0, 1) := by decide +kernel
theorem dX1_takeDigit_76 : decode cX1_takeDigit 76 = .ok (.iload 5, 2) := by decide +kernel
theorem dX1_takeDigit_78 : decode cX1_takeDigit 78 = .ok (.bipush 9, 2) := by decide +kernel
theorem dX1_takeDigit_80 : decode cX1_takeDigit 80 = .ok (.invokevirtual 104, 3) := by decide +kernel
theorem dX1_takeDigit_83 : decode cX1_takeDigit 83 = .ok (.iinc 5 (-1), 3) := by decide +kernel
theorem dX1_takeDigit_86 : decode cX1_takeDigit 86 = .ok (.goto (-17), 3) := by decide +kernel
theorem dX1_takeDigit_89 : decode cX1_takeDigit 89 = .ok (.aload_n 0, 1) := by decide +kernel
theorem dX1_takeDigit_90 : decode cX1_takeDigit 90 = .ok (.iload_n 1, 1) := by decide +kernel
theorem dX1_takeDigit_91 : decode cX1_takeDigit 91 = .ok (.iload_n 3, 1) := by decide +kernel
theorem dX1_takeDigit_92 : decode cX1_takeDigit 92 = .ok (.bipush 10, 2) := by decide +kernel
theorem dX1_takeDigit_94 : decode cX1_takeDigit 94 = .ok (.iadd, 1) := by decide +kernel
theorem dX1_takeDigit_95 : decode cX1_takeDigit 95 = .ok (.iload_n 2, 1) := by decide +kernel
theorem dX1_takeDigit_96 : decode cX1_takeDigit 96 = .ok (.isub, 1) := by decide +kernel
theorem dX1_takeDigit_97 : decode cX1_takeDigit 97 = .ok (.invokevirtual 104, 3) := by decide +kernel
theorem dX1_takeDigit_100 : decode cX1_takeDigit 100 = .ok (.aload_n 0, 1) := by decide +kernel
theorem dX1_takeDigit_101 : decode cX1_takeDigit 101 = .ok (.dup, 1) := by decide +kernel
theorem dX1_takeDigit_102 : decode cX1_takeDigit 102 = .ok (.getfield 57, 3) := by decide +kernel
theorem dX1_takeDigit_105 : decode cX1_takeDigit 105 = .ok (.iconst 1, 1) := by decide +kernel
theorem dX1_takeDigit_106 : decode cX1_takeDigit 106 = .ok (.iadd, 1) := by decide +kernel
theorem dX1_takeDigit_107 : decode cX1_takeDigit 107 = .ok (.putfield 57, 3) := by decide +kernel
theorem dX1_takeDigit_110 : decode cX1_takeDigit 110 = .ok (.return_, 1) := by decide +kernel
theorem dX1_multiply_0 : decode cX1_multiply 0 = .ok (.aload_n 0, 1) := by decide +kernel
theorem dX1_multiply_1 : decode cX1_multiply 1 = .ok (.getfield 15, 3) := by decide +kernel
theorem dX1_multiply_4 : decode cX1_multiply 4 = .ok (.iconst 1, 1) := by decide +kernel
theorem dX1_multiply_5 : decode cX1_multiply 5 = .ok (.isub, 1) := by decide +kernel
theorem dX1_multiply_6 : decode cX1_multiply 6 = .ok (.istore_n 2, 1) := by decide +kernel
theorem dX1_multiply_7 : decode cX1_multiply 7 = .ok (.iload_n 2, 1) := by decide +kernel
theorem dX1_multiply_8 : decode cX1_multiply 8 = .ok (.ifCond .lt 57, 3) := by decide +kernel
theorem dX1_multiply_11 : decode cX1_multiply 11 = .ok (.aload_n 0, 1) := by decide +kernel
theorem dX1_multiply_12 : decode cX1_multiply 12 = .ok (.iload_n 2, 1) := by decide +kernel
theorem dX1_multiply_13 : decode cX1_multiply 13 = .ok (.invokevirtual 72, 3) := by decide +kernel
theorem dX1_multiply_16 : decode cX1_multiply 16 = .ok (.iload_n 1, 1) := by decide +kernel
theorem dX1_multiply_17 : decode cX1_multiply 17 = .ok (.imul, 1) := by decide +kernel
theorem dX1_multiply_18 : decode cX1_multiply 18 = .ok (.istore_n 3, 1) := by decide +kernel
theorem dX1_multiply_19 : decode cX1_multiply 19 = .ok (.aload_n 0, 1) := by decide +kernel
theorem dX1_multiply_20 : decode cX1_multiply 20 = .ok (.iload_n 2, 1) := by decide +kernel
theorem dX1_multiply_21 : decode cX1_multiply 21 = .ok (.iconst 0, 1) := by decide +kernel
theorem dX1_multiply_22 : decode cX1_multiply 22 = .ok (.invokevirtual 104, 3) := by decide +kernel
theorem dX1_multiply_25 : decode cX1_multiply 25 = .ok (.aload_n 0, 1) := by decide +kernel
theorem dX1_multiply_26 : decode cX1_multiply 26 = .ok (.iload_n 2, 1) := by decide +kernel
theorem dX1_multiply_27 : decode cX1_multiply 27 = .ok (.iload_n 3, 1) := by decide +kernel
theorem dX1_multiply_28 : decode cX1_multiply 28 = .ok (.bipush 10, 2) := by decide +kernel
theorem dX1_multiply_30 : decode cX1_multiply 30 = .ok (.irem, 1) := by decide +kernel
theorem dX1_multiply_31 : decode cX1_multiply 31 = .ok (.invokevirtual 108, 3) := by decide +kernel
theorem dX1_multiply_34 : decode cX1_multiply 34 = .ok (.aload_n 0, 1) := by decide +kernel
theorem dX1_multiply_35 : decode cX1_multiply 35 = .ok (.iload_n 2, 1) := by decide +kernel
theorem dX1_multiply_36 : decode cX1_multiply 36 = .ok (.iconst 1, 1) := by decide +kernel
theorem dX1_multiply_37 : decode cX1_multiply 37 = .ok (.iadd, 1) := by decide +kernel
theorem dX1_multiply_38 : decode cX1_multiply 38 = .ok (.iload_n 3, 1) := by decide +kernel
theorem dX1_multiply_39 : decode cX1_multiply 39 = .ok (.bipush 10, 2) := by decide +kernel
theorem dX1_multiply_41 : decode cX1_multiply 41 = .ok (.idiv, 1) := by decide +kernel
theorem dX1_multiply_42 : decode cX1_multiply 42 = .ok (.bipush 10, 2) := by decide +kernel
theorem dX1_multiply_44 : decode cX1_multiply 44 = .ok (.irem, 1) := by decide +kernel
theorem dX1_multiply_45 : decode cX1_multiply 45 = .ok (.invokevirtual 108, 3) := by decide +kernel
theorem dX1_multiply_48 : decode cX1_multiply 48 = .ok (.aload_n 0, 1) := by decide +kernel
theorem dX1_multiply_49 : decode cX1_multiply 49 = .ok (.iload_n 2, 1) := by decide +kernel
theorem dX1_multiply_50 : decode cX1_multiply 50 = .ok (.iconst 2, 1) := by decide +kernel
theorem dX1_multiply_51 : decode cX1_multiply 51 = .ok (.iadd, 1) := by decide +kernel
theorem dX1_multiply_52 : decode cX1_multiply 52 = .ok (.iload_n 3, 1) := by decide +kernel
theorem dX1_multiply_53 : decode cX1_multiply 53 = .ok (.bipush 100, 2) := by decide +kernel
theorem dX1_multiply_55 : decode cX1_multiply 55 = .ok (.idiv, 1) := by decide +kernel
theorem dX1_multiply_56 : decode cX1_multiply 56 = .ok (.invokevirtual 108, 3) := by decide +kernel
theorem dX1_multiply_59 : decode cX1_multiply 59 = .ok (.iinc 2 (-1), 3) := by decide +kernel
theorem dX1_multiply_62 : decode cX1_multiply 62 = .ok (.goto (-55), 3) := by decide +kernel
theorem dX1_multiply_65 : decode cX1_multiply 65 = .ok (.return_, 1) := by decide +kernel
theorem dX1_splitBy_0 : decode cX1_splitBy 0 = .ok (.iload_n 1, 1) := by decide +kernel
theorem dX1_splitBy_1 : decode cX1_splitBy 1 = .ok (.ifCond .gt 5, 3) := by decide +kernel
theorem dX1_splitBy_4 : decode cX1_splitBy 4 = .ok (.iconst 0, 1) := by decide +kernel
theorem dX1_splitBy_5 : decode cX1_splitBy 5 = .ok (.ireturn, 1) := by decide +kernel
theorem dX1_splitBy_6 : decode cX1_splitBy 6 = .ok (.iconst 0, 1) := by decide +kernel
theorem dX1_splitBy_7 : decode cX1_splitBy 7 = .ok (.istore_n 2, 1) := by decide +kernel
theorem dX1_splitBy_8 : decode cX1_splitBy 8 = .ok (.aload_n 0, 1) := by decide +kernel
theorem dX1_splitBy_9 : decode cX1_splitBy 9 = .ok (.getfield 15, 3) := by decide +kernel
theorem dX1_splitBy_12 : decode cX1_splitBy 12 = .ok (.iconst 1, 1) := by decide +kernel
theorem dX1_splitBy_13 : decode cX1_splitBy 13 = .ok (.isub, 1) := by decide +kernel
theorem dX1_splitBy_14 : decode cX1_splitBy 14 = .ok (.istore_n 3, 1) := by decide +kernel
theorem dX1_splitBy_15 : decode cX1_splitBy 15 = .ok (.iload_n 3, 1) := by decide +kernel
theorem dX1_splitBy_16 : decode cX1_splitBy 16 = .ok (.ifCond .lt 35, 3) := by decide +kernel
theorem dX1_splitBy_19 : decode cX1_splitBy 19 = .ok (.bipush 10, 2) := by decide +kernel
theorem dX1_splitBy_21 : decode cX1_splitBy 21 = .ok (.iload_n 2, 1) := by decide +kernel
theorem dX1_splitBy_22 : decode cX1_splitBy 22 = .ok (.imul, 1) := by decide +kernel
theorem dX1_splitBy_23 : decode cX1_splitBy 23 = .ok (.aload_n 0, 1) := by decide +kernel
theorem dX1_splitBy_24 : decode cX1_splitBy 24 = .ok (.iload_n 3, 1) := by decide +kernel
theorem dX1_splitBy_25 : decode cX1_splitBy 25 = .ok (.invokevirtual 72, 3) := by decide +kernel
theorem dX1_splitBy_28 : decode cX1_splitBy 28 = .ok (.iadd, 1) := by decide +kernel
theorem dX1_splitBy_29 : decode cX1_splitBy 29 = .ok (.istore 4, 2) := by decide +kernel
theorem dX1_splitBy_31 : decode cX1_splitBy 31 = .ok (.aload_n 0, 1) := by decide +kernel
theorem dX1_splitBy_32 : decode cX1_splitBy 32 = .ok (.iload_n 3, 1) := by decide +kernel
theorem dX1_splitBy_33 : decode cX1_splitBy 33 = .ok (.iload 4, 2) := by decide +kernel
theorem dX1_splitBy_35 : decode cX1_splitBy 35 = .ok (.iload_n 1, 1) := by decide +kernel
theorem dX1_splitBy_36 : decode cX1_splitBy 36 = .ok (.idiv, 1) := by decide +kernel
theorem dX1_splitBy_37 : decode cX1_splitBy 37 = .ok (.invokevirtual 104, 3) := by decide +kernel
theorem dX1_splitBy_40 : decode cX1_splitBy 40 = .ok (.iload 4, 2) := by decide +kernel
theorem dX1_splitBy_42 : decode cX1_splitBy 42 = .ok (.iload_n 1, 1) := by decide +kernel
theorem dX1_splitBy_43 : decode cX1_splitBy 43 = .ok (.irem, 1) := by decide +kernel
theorem dX1_splitBy_44 : decode cX1_splitBy 44 = .ok (.istore_n 2, 1) := by decide +kernel
theorem dX1_splitBy_45 : decode cX1_splitBy 45 = .ok (.iinc 3 (-1), 3) := by decide +kernel
theorem dX1_splitBy_48 : decode cX1_splitBy 48 = .ok (.goto (-33), 3) := by decide +kernel
theorem dX1_splitBy_51 : decode cX1_splitBy 51 = .ok (.iload_n 2, 1) := by decide +kernel
theorem dX1_splitBy_52 : decode cX1_splitBy 52 = .ok (.ireturn, 1) := by decide +kernel
theorem dX1_shiftLeft_0 : decode cX1_shiftLeft 0 = .ok (.aload_n 0, 1) := by decide +kernel
theorem dX1_shiftLeft_1 : decode cX1_shiftLeft 1 = .ok (.aload_n 0, 1) := by decide +kernel
theorem dX1_shiftLeft_2 : decode cX1_shiftLeft 2 = .ok (.getfield 15, 3) := by decide +kernel
theorem dX1_shiftLeft_5 : decode cX1_shiftLeft 5 = .ok (.iconst 1, 1) := by decide +kernel
theorem dX1_shiftLeft_6 : decode cX1_shiftLeft 6 = .ok (.isub, 1) := by decide +kernel
theorem dX1_shiftLeft_7 : decode cX1_shiftLeft 7 = .ok (.invokevirtual 72, 3) := by decide +kernel
theorem dX1_shiftLeft_10 : decode cX1_shiftLeft 10 = .ok (.istore_n 1, 1) := by decide +kernel
theorem dX1_shiftLeft_11 : decode cX1_shiftLeft 11 = .ok (.aload_n 0, 1) := by decide +kernel
theorem dX1_shiftLeft_12 : decode cX1_shiftLeft 12 = .ok (.getfield 15, 3) := by decide +kernel
theorem dX1_shiftLeft_15 : decode cX1_shiftLeft 15 = .ok (.iconst 1, 1) := by decide +kernel
theorem dX1_shiftLeft_16 : decode cX1_shiftLeft 16 = .ok (.isub, 1) := by decide +kernel
theorem dX1_shiftLeft_17 : decode cX1_shiftLeft 17 = .ok (.istore_n 2, 1) := by decide +kernel
theorem dX1_shiftLeft_18 : decode cX1_shiftLeft 18 = .ok (.iload_n 2, 1) := by decide +kernel
theorem dX1_shiftLeft_19 : decode cX1_shiftLeft 19 = .ok (.ifCond .le 21, 3) := by decide +kernel
theorem dX1_shiftLeft_22 : decode cX1_shiftLeft 22 = .ok (.aload_n 0, 1) := by decide +kernel
theorem dX1_shiftLeft_23 : decode cX1_shiftLeft 23 = .ok (.iload_n 2, 1) := by decide +kernel
theorem dX1_shiftLeft_24 : decode cX1_shiftLeft 24 = .ok (.aload_n 0, 1) := by decide +kernel
theorem dX1_shiftLeft_25 : decode cX1_shiftLeft 25 = .ok (.iload_n 2, 1) := by decide +kernel
theorem dX1_shiftLeft_26 : decode cX1_shiftLeft 26 = .ok (.iconst 1, 1) := by decide +kernel
theorem dX1_shiftLeft_27 : decode cX1_shiftLeft 27 = .ok (.isub, 1) := by decide +kernel
theorem dX1_shiftLeft_28 : decode cX1_shiftLeft 28 = .ok (.invokevirtual 72, 3) := by decide +kernel
theorem dX1_shiftLeft_31 : decode cX1_shiftLeft 31 = .ok (.invokevirtual 104, 3) := by decide +kernel
theorem dX1_shiftLeft_34 : decode cX1_shiftLeft 34 = .ok (.iinc 2 (-1), 3) := by decide +kernel
theorem dX1_shiftLeft_37 : decode cX1_shiftLeft 37 = .ok (.goto (-19), 3) := by decide +kernel
theorem dX1_shiftLeft_40 : decode cX1_shiftLeft 40 = .ok (.aload_n 0, 1) := by decide +kernel
theorem dX1_shiftLeft_41 : decode cX1_shiftLeft 41 = .ok (.iconst 0, 1) := by decide +kernel
theorem dX1_shiftLeft_42 : decode cX1_shiftLeft 42 = .ok (.iconst 0, 1) := by decide +kernel
theorem dX1_shiftLeft_43 : decode cX1_shiftLeft 43 = .ok (.invokevirtual 104, 3) := by decide +kernel
theorem dX1_shiftLeft_46 : decode cX1_shiftLeft 46 = .ok (.aload_n 0, 1) := by decide +kernel
theorem dX1_shiftLeft_47 : decode cX1_shiftLeft 47 = .ok (.dup, 1) := by decide +kernel
theorem dX1_shiftLeft_48 : decode cX1_shiftLeft 48 = .ok (.getfield 60, 3) := by decide +kernel
theorem dX1_shiftLeft_51 : decode cX1_shiftLeft 51 = .ok (.iload_n 1, 1) := by decide +kernel
theorem dX1_shiftLeft_52 : decode cX1_shiftLeft 52 = .ok (.iadd, 1) := by decide +kernel
theorem dX1_shiftLeft_53 : decode cX1_shiftLeft 53 = .ok (.putfield 60, 3) := by decide +kernel
theorem dX1_shiftLeft_56 : decode cX1_shiftLeft 56 = .ok (.iload_n 1, 1) := by decide +kernel
theorem dX1_shiftLeft_57 : decode cX1_shiftLeft 57 = .ok (.ireturn, 1) := by decide +kernel
theorem dX1_shiftRight_0 : decode cX1_shiftRight 0 = .ok (.aload_n 0, 1) := by decide +kernel
theorem dX1_shiftRight_1 : decode cX1_shiftRight 1 = .ok (.iconst 0, 1) := by decide +kernel
theorem dX1_shiftRight_2 : decode cX1_shiftRight 2 = .ok (.invokevirtual 72, 3) := by decide +kernel
theorem dX1_shiftRight_5 : decode cX1_shiftRight 5 = .ok (.istore_n 1, 1) := by decide +kernel
theorem dX1_shiftRight_6 : decode cX1_shiftRight 6 = .ok (.iconst 0, 1) := by decide +kernel
theorem dX1_shiftRight_7 : decode cX1_shiftRight 7 = .ok (.istore_n 2, 1) := by decide +kernel
theorem dX1_shiftRight_8 : decode cX1_shiftRight 8 = .ok (.iload_n 2, 1) := by decide +kernel
theorem dX1_shiftRight_9 : decode cX1_shiftRight 9 = .ok (.aload_n 0, 1) := by decide +kernel
theorem dX1_shiftRight_10 : decode cX1_shiftRight 10 = .ok (.getfield 15, 3) := by decide +kernel
theorem dX1_shiftRight_13 : decode cX1_shiftRight 13 = .ok (.iconst 1, 1) := by decide +kernel
theorem dX1_shiftRight_14 : decode cX1_shiftRight 14 = .ok (.isub, 1) := by decide +kernel
theorem dX1_shiftRight_15 : decode cX1_shiftRight 15 = .ok (.if_icmp .ge 21, 3) := by decide +kernel
theorem dX1_shiftRight_18 : decode cX1_shiftRight 18 = .ok (.aload_n 0, 1) := by decide +kernel
theorem dX1_shiftRight_19 : decode cX1_shiftRight 19 = .ok (.iload_n 2, 1) := by decide +kernel
theorem dX1_shiftRight_20 : decode cX1_shiftRight 20 = .ok (.aload_n 0, 1) := by decide +kernel
theorem dX1_shiftRight_21 : decode cX1_shiftRight 21 = .ok (.iload_n 2, 1) := by decide +kernel
theorem dX1_shiftRight_22 : decode cX1_shiftRight 22 = .ok (.iconst 1, 1) := by decide +kernel
theorem dX1_shiftRight_23 : decode cX1_shiftRight 23 = .ok (.iadd, 1) := by decide +kernel
theorem dX1_shiftRight_24 : decode cX1_shiftRight 24 = .ok (.invokevirtual 72, 3) := by decide +kernel
theorem dX1_shiftRight_27 : decode cX1_shiftRight 27 = .ok (.invokevirtual 104, 3) := by decide +kernel
theorem dX1_shiftRight_30 : decode cX1_shiftRight 30 = .ok (.iinc 2 1, 3) := by decide +kernel
theorem dX1_shiftRight_33 : decode cX1_shiftRight 33 = .ok (.goto (-25), 3) := by decide +kernel
theorem dX1_shiftRight_36 : decode cX1_shiftRight 36 = .ok (.aload_n 0, 1) := by decide +kernel
theorem dX1_shiftRight_37 : decode cX1_shiftRight 37 = .ok (.aload_n 0, 1) := by decide +kernel
theorem dX1_shiftRight_38 : decode cX1_shiftRight 38 = .ok (.getfield 15, 3) := by decide +kernel
theorem dX1_shiftRight_41 : decode cX1_shiftRight 41 = .ok (.iconst 1, 1) := by decide +kernel
theorem dX1_shiftRight_42 : decode cX1_shiftRight 42 = .ok (.isub, 1) := by decide +kernel
theorem dX1_shiftRight_43 : decode cX1_shiftRight 43 = .ok (.iconst 0, 1) := by decide +kernel
theorem dX1_shiftRight_44 : decode cX1_shiftRight 44 = .ok (.invokevirtual 104, 3) := by decide +kernel
theorem dX1_shiftRight_47 : decode cX1_shiftRight 47 = .ok (.iload_n 1, 1) := by decide +kernel
theorem dX1_shiftRight_48 : decode cX1_shiftRight 48 = .ok (.ireturn, 1) := by decide +kernel
theorem dX1_tidyRods_0 : decode cX1_tidyRods 0 = .ok (.iconst 0, 1) := by decide +kernel
theorem dX1_tidyRods_1 : decode cX1_tidyRods 1 = .ok (.istore_n 1, 1) := by decide +kernel
theorem dX1_tidyRods_2 : decode cX1_tidyRods 2 = .ok (.iload_n 1, 1) := by decide +kernel
theorem dX1_tidyRods_3 : decode cX1_tidyRods 3 = .ok (.aload_n 0, 1) := by decide +kernel
theorem dX1_tidyRods_4 : decode cX1_tidyRods 4 = .ok (.getfield 15, 3) := by decide +kernel
theorem dX1_tidyRods_7 : decode cX1_tidyRods 7 = .ok (.if_icmp .ge 48, 3) := by decide +kernel
theorem dX1_tidyRods_10 : decode cX1_tidyRods 10 = .ok (.aload_n 0, 1) := by decide +kernel
theorem dX1_tidyRods_11 : decode cX1_tidyRods 11 = .ok (.iload_n 1, 1) := by decide +kernel
theorem dX1_tidyRods_12 : decode cX1_tidyRods 12 = .ok (.invokevirtual 72, 3) := by decide +kernel
theorem dX1_tidyRods_15 : decode cX1_tidyRods 15 = .ok (.istore_n 2, 1) := by decide +kernel
theorem dX1_tidyRods_16 : decode cX1_tidyRods 16 = .ok (.iload_n 2, 1) := by decide +kernel
theorem dX1_tidyRods_17 : decode cX1_tidyRods 17 = .ok (.bipush 9, 2) := by decide +kernel
theorem dX1_tidyRods_19 : decode cX1_tidyRods 19 = .ok (.if_icmp .le 30, 3) := by decide +kernel
theorem dX1_tidyRods_22 : decode cX1_tidyRods 22 = .ok (.aload_n 0, 1) := by decide +kernel
theorem dX1_tidyRods_23 : decode cX1_tidyRods 23 = .ok (.iload_n 1, 1) := by decide +kernel
theorem dX1_tidyRods_24 : decode cX1_tidyRods 24 = .ok (.iload_n 2, 1) := by decide +kernel
theorem dX1_tidyRods_25 : decode cX1_tidyRods 25 = .ok (.bipush 10, 2) := by decide +kernel
theorem dX1_tidyRods_27 : decode cX1_tidyRods 27 = .ok (.isub, 1) := by decide +kernel
theorem dX1_tidyRods_28 : decode cX1_tidyRods 28 = .ok (.invokevirtual 104, 3) := by decide +kernel
theorem dX1_tidyRods_31 : decode cX1_tidyRods 31 = .ok (.aload_n 0, 1) := by decide +kernel
theorem dX1_tidyRods_32 : decode cX1_tidyRods 32 = .ok (.dup, 1) := by decide +kernel
theorem dX1_tidyRods_33 : decode cX1_tidyRods 33 = .ok (.getfield 54, 3) := by decide +kernel
theorem dX1_tidyRods_36 : decode cX1_tidyRods 36 = .ok (.iconst 1, 1) := by decide +kernel
theorem dX1_tidyRods_37 : decode cX1_tidyRods 37 = .ok (.iadd, 1) := by decide +kernel
theorem dX1_tidyRods_38 : decode cX1_tidyRods 38 = .ok (.putfield 54, 3) := by decide +kernel
theorem dX1_tidyRods_41 : decode cX1_tidyRods 41 = .ok (.aload_n 0, 1) := by decide +kernel
theorem dX1_tidyRods_42 : decode cX1_tidyRods 42 = .ok (.iload_n 1, 1) := by decide +kernel
theorem dX1_tidyRods_43 : decode cX1_tidyRods 43 = .ok (.iconst 1, 1) := by decide +kernel
theorem dX1_tidyRods_44 : decode cX1_tidyRods 44 = .ok (.iadd, 1) := by decide +kernel
theorem dX1_tidyRods_45 : decode cX1_tidyRods 45 = .ok (.iconst 1, 1) := by decide +kernel
theorem dX1_tidyRods_46 : decode cX1_tidyRods 46 = .ok (.invokevirtual 108, 3) := by decide +kernel
theorem dX1_tidyRods_49 : decode cX1_tidyRods 49 = .ok (.iinc 1 1, 3) := by decide +kernel
theorem dX1_tidyRods_52 : decode cX1_tidyRods 52 = .ok (.goto (-50), 3) := by decide +kernel
theorem dX1_tidyRods_55 : decode cX1_tidyRods 55 = .ok (.return_, 1) := by decide +kernel
theorem dX1_keepBeads_0 : decode cX1_keepBeads 0 = .ok (.aload_n 0, 1) := by decide +kernel
theorem dX1_keepBeads_1 : decode cX1_keepBeads 1 = .ok (.getfield 27, 3) := by decide +kernel
theorem dX1_keepBeads_4 : decode cX1_keepBeads 4 = .ok (.aload_n 0, 1) := by decide +kernel
theorem dX1_keepBeads_5 : decode cX1_keepBeads 5 = .ok (.getfield 114, 3) := by decide +kernel
theorem dX1_keepBeads_8 : decode cX1_keepBeads 8 = .ok (.invokevirtual 117, 3) := by decide +kernel
theorem dX1_keepBeads_11 : decode cX1_keepBeads 11 = .ok (.aload_n 0, 1) := by decide +kernel
theorem dX1_keepBeads_12 : decode cX1_keepBeads 12 = .ok (.getfield 34, 3) := by decide +kernel
theorem dX1_keepBeads_15 : decode cX1_keepBeads 15 = .ok (.aload_n 0, 1) := by decide +kernel
theorem dX1_keepBeads_16 : decode cX1_keepBeads 16 = .ok (.getfield 114, 3) := by decide +kernel
theorem dX1_keepBeads_19 : decode cX1_keepBeads 19 = .ok (.invokevirtual 117, 3) := by decide +kernel
theorem dX1_keepBeads_22 : decode cX1_keepBeads 22 = .ok (.aload_n 0, 1) := by decide +kernel
theorem dX1_keepBeads_23 : decode cX1_keepBeads 23 = .ok (.aload_n 0, 1) := by decide +kernel
theorem dX1_keepBeads_24 : decode cX1_keepBeads 24 = .ok (.getfield 114, 3) := by decide +kernel
theorem dX1_keepBeads_27 : decode cX1_keepBeads 27 = .ok (.iconst 1, 1) := by decide +kernel
theorem dX1_keepBeads_28 : decode cX1_keepBeads 28 = .ok (.iadd, 1) := by decide +kernel
theorem dX1_keepBeads_29 : decode cX1_keepBeads 29 = .ok (.bipush 12, 2) := by decide +kernel
theorem dX1_keepBeads_31 : decode cX1_keepBeads 31 = .ok (.irem, 1) := by decide +kernel
theorem dX1_keepBeads_32 : decode cX1_keepBeads 32 = .ok (.putfield 114, 3) := by decide +kernel
theorem dX1_keepBeads_35 : decode cX1_keepBeads 35 = .ok (.aload_n 0, 1) := by decide +kernel
theorem dX1_keepBeads_36 : decode cX1_keepBeads 36 = .ok (.getfield 120, 3) := by decide +kernel
theorem dX1_keepBeads_39 : decode cX1_keepBeads 39 = .ok (.bipush 12, 2) := by decide +kernel
theorem dX1_keepBeads_41 : decode cX1_keepBeads 41 = .ok (.if_icmp .ge 13, 3) := by decide +kernel
theorem dX1_keepBeads_44 : decode cX1_keepBeads 44 = .ok (.aload_n 0, 1) := by decide +kernel
theorem dX1_keepBeads_45 : decode cX1_keepBeads 45 = .ok (.dup, 1) := by decide +kernel
theorem dX1_keepBeads_46 : decode cX1_keepBeads 46 = .ok (.getfield 120, 3) := by decide +kernel
theorem dX1_keepBeads_49 : decode cX1_keepBeads 49 = .ok (.iconst 1, 1) := by decide +kernel
theorem dX1_keepBeads_50 : decode cX1_keepBeads 50 = .ok (.iadd, 1) := by decide +kernel
theorem dX1_keepBeads_51 : decode cX1_keepBeads 51 = .ok (.putfield 120, 3) := by decide +kernel
theorem dX1_keepBeads_54 : decode cX1_keepBeads 54 = .ok (.return_, 1) := by decide +kernel
theorem dX1_restoreBeads_0 : decode cX1_restoreBeads 0 = .ok (.aload_n 0, 1) := by decide +kernel
theorem dX1_restoreBeads_1 : decode cX1_restoreBeads 1 = .ok (.aload_n 0, 1) := by decide +kernel
theorem dX1_restoreBeads_2 : decode cX1_restoreBeads 2 = .ok (.getfield 114, 3) := by decide +kernel
theorem dX1_restoreBeads_5 : decode cX1_restoreBeads 5 = .ok (.bipush 12, 2) := by decide +kernel
theorem dX1_restoreBeads_7 : decode cX1_restoreBeads 7 = .ok (.iadd, 1) := by decide +kernel
theorem dX1_restoreBeads_8 : decode cX1_restoreBeads 8 = .ok (.iconst 1, 1) := by decide +kernel
theorem dX1_restoreBeads_9 : decode cX1_restoreBeads 9 = .ok (.isub, 1) := by decide +kernel
theorem dX1_restoreBeads_10 : decode cX1_restoreBeads 10 = .ok (.bipush 12, 2) := by decide +kernel
theorem dX1_restoreBeads_12 : decode cX1_restoreBeads 12 = .ok (.irem, 1) := by decide +kernel
theorem dX1_restoreBeads_13 : decode cX1_restoreBeads 13 = .ok (.putfield 114, 3) := by decide +kernel
theorem dX1_restoreBeads_16 : decode cX1_restoreBeads 16 = .ok (.aload_n 0, 1) := by decide +kernel
theorem dX1_restoreBeads_17 : decode cX1_restoreBeads 17 = .ok (.getfield 27, 3) := by decide +kernel
theorem dX1_restoreBeads_20 : decode cX1_restoreBeads 20 = .ok (.aload_n 0, 1) := by decide +kernel
theorem dX1_restoreBeads_21 : decode cX1_restoreBeads 21 = .ok (.getfield 114, 3) := by decide +kernel
theorem dX1_restoreBeads_24 : decode cX1_restoreBeads 24 = .ok (.invokevirtual 123, 3) := by decide +kernel
theorem dX1_restoreBeads_27 : decode cX1_restoreBeads 27 = .ok (.aload_n 0, 1) := by decide +kernel
theorem dX1_restoreBeads_28 : decode cX1_restoreBeads 28 = .ok (.getfield 34, 3) := by decide +kernel
theorem dX1_restoreBeads_31 : decode cX1_restoreBeads 31 = .ok (.aload_n 0, 1) := by decide +kernel
theorem dX1_restoreBeads_32 : decode cX1_restoreBeads 32 = .ok (.getfield 114, 3) := by decide +kernel
theorem dX1_restoreBeads_35 : decode cX1_restoreBeads 35 = .ok (.invokevirtual 123, 3) := by decide +kernel
theorem dX1_restoreBeads_38 : decode cX1_restoreBeads 38 = .ok (.aload_n 0, 1) := by decide +kernel
theorem dX1_restoreBeads_39 : decode cX1_restoreBeads 39 = .ok (.dup, 1) := by decide +kernel
theorem dX1_restoreBeads_40 : decode cX1_restoreBeads 40 = .ok (.getfield 120, 3) := by decide +kernel
theorem dX1_restoreBeads_43 : decode cX1_restoreBeads 43 = .ok (.iconst 1, 1) := by decide +kernel
theorem dX1_restoreBeads_44 : decode cX1_restoreBeads 44 = .ok (.isub, 1) := by decide +kernel
theorem dX1_restoreBeads_45 : decode cX1_restoreBeads 45 = .ok (.putfield 120, 3) := by decide +kernel
theorem dX1_restoreBeads_48 : decode cX1_restoreBeads 48 = .ok (.return_, 1) := by decide +kernel
theorem dX1_greaseRod_0 : decode cX1_greaseRod 0 = .ok (.aload_n 0, 1) := by decide +kernel
theorem dX1_greaseRod_1 : decode cX1_greaseRod 1 = .ok (.getfield 27, 3) := by decide +kernel
theorem dX1_greaseRod_4 : decode cX1_greaseRod 4 = .ok (.iload_n 1, 1) := by decide +kernel
theorem dX1_greaseRod_5 : decode cX1_greaseRod 5 = .ok (.invokevirtual 126, 3) := by decide +kernel
theorem dX1_greaseRod_8 : decode cX1_greaseRod 8 = .ok (.aload_n 0, 1) := by decide +kernel
theorem dX1_greaseRod_9 : decode cX1_greaseRod 9 = .ok (.getfield 34, 3) := by decide +kernel
theorem dX1_greaseRod_12 : decode cX1_greaseRod 12 = .ok (.iload_n 1, 1) := by decide +kernel
theorem dX1_greaseRod_13 : decode cX1_greaseRod 13 = .ok (.invokevirtual 126, 3) := by decide +kernel
theorem dX1_greaseRod_16 : decode cX1_greaseRod 16 = .ok (.iadd, 1) := by decide +kernel
theorem dX1_greaseRod_17 : decode cX1_greaseRod 17 = .ok (.istore_n 2, 1) := by decide +kernel
theorem dX1_greaseRod_18 : decode cX1_greaseRod 18 = .ok (.aload_n 0, 1) := by decide +kernel
theorem dX1_greaseRod_19 : decode cX1_greaseRod 19 = .ok (.getfield 27, 3) := by decide +kernel
theorem dX1_greaseRod_22 : decode cX1_greaseRod 22 = .ok (.iload_n 1, 1) := by decide +kernel
theorem dX1_greaseRod_23 : decode cX1_greaseRod 23 = .ok (.invokevirtual 129, 3) := by decide +kernel
theorem dX1_greaseRod_26 : decode cX1_greaseRod 26 = .ok (.aload_n 0, 1) := by decide +kernel
theorem dX1_greaseRod_27 : decode cX1_greaseRod 27 = .ok (.getfield 34, 3) := by decide +kernel
theorem dX1_greaseRod_30 : decode cX1_greaseRod 30 = .ok (.iload_n 1, 1) := by decide +kernel
theorem dX1_greaseRod_31 : decode cX1_greaseRod 31 = .ok (.invokevirtual 129, 3) := by decide +kernel
theorem dX1_greaseRod_34 : decode cX1_greaseRod 34 = .ok (.aload_n 0, 1) := by decide +kernel
theorem dX1_greaseRod_35 : decode cX1_greaseRod 35 = .ok (.aload_n 0, 1) := by decide +kernel
theorem dX1_greaseRod_36 : decode cX1_greaseRod 36 = .ok (.getfield 44, 3) := by decide +kernel
theorem dX1_greaseRod_39 : decode cX1_greaseRod 39 = .ok (.fconst 2, 1) := by decide +kernel
theorem dX1_greaseRod_40 : decode cX1_greaseRod 40 = .ok (.fadd, 1) := by decide +kernel
theorem dX1_greaseRod_41 : decode cX1_greaseRod 41 = .ok (.putfield 44, 3) := by decide +kernel
theorem dX1_greaseRod_44 : decode cX1_greaseRod 44 = .ok (.iload_n 2, 1) := by decide +kernel
theorem dX1_greaseRod_45 : decode cX1_greaseRod 45 = .ok (.ireturn, 1) := by decide +kernel
theorem dX1_factOfRod_0 : decode cX1_factOfRod 0 = .ok (.iload_n 2, 1) := by decide +kernel
theorem dX1_factOfRod_1 : decode cX1_factOfRod 1 = .ok (.tableswitch 77 0 4 #[35, 41, 50, 59, 68], 35) := by decide +kernel
theorem dX1_factOfRod_36 : decode cX1_factOfRod 36 = .ok (.aload_n 0, 1) := by decide +kernel
theorem dX1_factOfRod_37 : decode cX1_factOfRod 37 = .ok (.iload_n 1, 1) := by decide +kernel
theorem dX1_factOfRod_38 : decode cX1_factOfRod 38 = .ok (.invokevirtual 72, 3) := by decide +kernel
theorem dX1_factOfRod_41 : decode cX1_factOfRod 41 = .ok (.ireturn, 1) := by decide +kernel
theorem dX1_factOfRod_42 : decode cX1_factOfRod 42 = .ok (.aload_n 0, 1) := by decide +kernel
theorem dX1_factOfRod_43 : decode cX1_factOfRod 43 = .ok (.getfield 27, 3) := by decide +kernel
theorem dX1_factOfRod_46 : decode cX1_factOfRod 46 = .ok (.iload_n 1, 1) := by decide +kernel
theorem dX1_factOfRod_47 : decode cX1_factOfRod 47 = .ok (.invokevirtual 65, 3) := by decide +kernel
theorem dX1_factOfRod_50 : decode cX1_factOfRod 50 = .ok (.ireturn, 1) := by decide +kernel
theorem dX1_factOfRod_51 : decode cX1_factOfRod 51 = .ok (.aload_n 0, 1) := by decide +kernel
theorem dX1_factOfRod_52 : decode cX1_factOfRod 52 = .ok (.getfield 34, 3) := by decide +kernel
theorem dX1_factOfRod_55 : decode cX1_factOfRod 55 = .ok (.iload_n 1, 1) := by decide +kernel
theorem dX1_factOfRod_56 : decode cX1_factOfRod 56 = .ok (.invokevirtual 65, 3) := by decide +kernel
theorem dX1_factOfRod_59 : decode cX1_factOfRod 59 = .ok (.ireturn, 1) := by decide +kernel
theorem dX1_factOfRod_60 : decode cX1_factOfRod 60 = .ok (.aload_n 0, 1) := by decide +kernel
theorem dX1_factOfRod_61 : decode cX1_factOfRod 61 = .ok (.getfield 27, 3) := by decide +kernel
theorem dX1_factOfRod_64 : decode cX1_factOfRod 64 = .ok (.iload_n 1, 1) := by decide +kernel
theorem dX1_factOfRod_65 : decode cX1_factOfRod 65 = .ok (.invokevirtual 126, 3) := by decide +kernel
theorem dX1_factOfRod_68 : decode cX1_factOfRod 68 = .ok (.ireturn, 1) := by decide +kernel
theorem dX1_factOfRod_69 : decode cX1_factOfRod 69 = .ok (.aload_n 0, 1) := by decide +kernel
theorem dX1_factOfRod_70 : decode cX1_factOfRod 70 = .ok (.getfield 34, 3) := by decide +kernel
theorem dX1_factOfRod_73 : decode cX1_factOfRod 73 = .ok (.iload_n 1, 1) := by decide +kernel
theorem dX1_factOfRod_74 : decode cX1_factOfRod 74 = .ok (.invokevirtual 126, 3) := by decide +kernel
theorem dX1_factOfRod_77 : decode cX1_factOfRod 77 = .ok (.ireturn, 1) := by decide +kernel
theorem dX1_factOfRod_78 : decode cX1_factOfRod 78 = .ok (.aload_n 0, 1) := by decide +kernel
theorem dX1_factOfRod_79 : decode cX1_factOfRod 79 = .ok (.getfield 27, 3) := by decide +kernel
theorem dX1_factOfRod_82 : decode cX1_factOfRod 82 = .ok (.iload_n 1, 1) := by decide +kernel
theorem dX1_factOfRod_83 : decode cX1_factOfRod 83 = .ok (.invokevirtual 132, 3) := by decide +kernel
theorem dX1_factOfRod_86 : decode cX1_factOfRod 86 = .ok (.ifCond .eq 7, 3) := by decide +kernel
theorem dX1_factOfRod_89 : decode cX1_factOfRod 89 = .ok (.iconst 1, 1) := by decide +kernel
theorem dX1_factOfRod_90 : decode cX1_factOfRod 90 = .ok (.goto 4, 3) := by decide +kernel
theorem dX1_factOfRod_93 : decode cX1_factOfRod 93 = .ok (.iconst 0, 1) := by decide +kernel
theorem dX1_factOfRod_94 : decode cX1_factOfRod 94 = .ok (.aload_n 0, 1) := by decide +kernel
theorem dX1_factOfRod_95 : decode cX1_factOfRod 95 = .ok (.getfield 34, 3) := by decide +kernel
theorem dX1_factOfRod_98 : decode cX1_factOfRod 98 = .ok (.iload_n 1, 1) := by decide +kernel
theorem dX1_factOfRod_99 : decode cX1_factOfRod 99 = .ok (.invokevirtual 132, 3) := by decide +kernel
theorem dX1_factOfRod_102 : decode cX1_factOfRod 102 = .ok (.ifCond .eq 7, 3) := by decide +kernel
theorem dX1_factOfRod_105 : decode cX1_factOfRod 105 = .ok (.iconst 1, 1) := by decide +kernel
theorem dX1_factOfRod_106 : decode cX1_factOfRod 106 = .ok (.goto 4, 3) := by decide +kernel
theorem dX1_factOfRod_109 : decode cX1_factOfRod 109 = .ok (.iconst 0, 1) := by decide +kernel
theorem dX1_factOfRod_110 : decode cX1_factOfRod 110 = .ok (.iadd, 1) := by decide +kernel
theorem dX1_factOfRod_111 : decode cX1_factOfRod 111 = .ok (.ireturn, 1) := by decide +kernel
